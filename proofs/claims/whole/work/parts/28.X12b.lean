/-! CoveredSignsModel.plain -/
theorem d_X12_plain_0 : decode (yB m_X12_plain) 0 = .ok (.aload_n 0, 1) := by decide +kernel
theorem d_X12_plain_1 : decode (yB m_X12_plain) 1 = .ok (.bipush 19, 2) := by decide +kernel
theorem d_X12_plain_3 : decode (yB m_X12_plain) 3 = .ok (.bipush 9, 2) := by decide +kernel
theorem d_X12_plain_5 : decode (yB m_X12_plain) 5 = .ok (.iconst 4, 1) := by decide +kernel
theorem d_X12_plain_6 : decode (yB m_X12_plain) 6 = .ok (.iconst 5, 1) := by decide +kernel
theorem d_X12_plain_7 : decode (yB m_X12_plain) 7 = .ok (.iconst 0, 1) := by decide +kernel
theorem d_X12_plain_8 : decode (yB m_X12_plain) 8 = .ok (.iconst 0, 1) := by decide +kernel
theorem d_X12_plain_9 : decode (yB m_X12_plain) 9 = .ok (.invokevirtual 162, 3) := by decide +kernel
theorem d_X12_plain_12 : decode (yB m_X12_plain) 12 = .ok (.ifCond .eq 103, 3) := by decide +kernel
theorem d_X12_plain_15 : decode (yB m_X12_plain) 15 = .ok (.aload_n 0, 1) := by decide +kernel
theorem d_X12_plain_16 : decode (yB m_X12_plain) 16 = .ok (.invokevirtual 166, 3) := by decide +kernel
theorem d_X12_plain_19 : decode (yB m_X12_plain) 19 = .ok (.aload_n 0, 1) := by decide +kernel
theorem d_X12_plain_20 : decode (yB m_X12_plain) 20 = .ok (.iconst 0, 1) := by decide +kernel
theorem d_X12_plain_21 : decode (yB m_X12_plain) 21 = .ok (.iconst 3, 1) := by decide +kernel
theorem d_X12_plain_22 : decode (yB m_X12_plain) 22 = .ok (.invokevirtual 191, 3) := by decide +kernel
theorem d_X12_plain_25 : decode (yB m_X12_plain) 25 = .ok (.istore_n 1, 1) := by decide +kernel
theorem d_X12_plain_26 : decode (yB m_X12_plain) 26 = .ok (.aload_n 0, 1) := by decide +kernel
theorem d_X12_plain_27 : decode (yB m_X12_plain) 27 = .ok (.iconst 1, 1) := by decide +kernel
theorem d_X12_plain_28 : decode (yB m_X12_plain) 28 = .ok (.iload_n 1, 1) := by decide +kernel
theorem d_X12_plain_29 : decode (yB m_X12_plain) 29 = .ok (.iconst 2, 1) := by decide +kernel
theorem d_X12_plain_30 : decode (yB m_X12_plain) 30 = .ok (.if_icmp .ge 10, 3) := by decide +kernel
theorem d_X12_plain_33 : decode (yB m_X12_plain) 33 = .ok (.aload_n 0, 1) := by decide +kernel
theorem d_X12_plain_34 : decode (yB m_X12_plain) 34 = .ok (.getfield 17, 3) := by decide +kernel
theorem d_X12_plain_37 : decode (yB m_X12_plain) 37 = .ok (.goto 7, 3) := by decide +kernel
theorem d_X12_plain_40 : decode (yB m_X12_plain) 40 = .ok (.aload_n 0, 1) := by decide +kernel
theorem d_X12_plain_41 : decode (yB m_X12_plain) 41 = .ok (.getfield 20, 3) := by decide +kernel
theorem d_X12_plain_44 : decode (yB m_X12_plain) 44 = .ok (.invokevirtual 191, 3) := by decide +kernel
theorem d_X12_plain_47 : decode (yB m_X12_plain) 47 = .ok (.istore_n 2, 1) := by decide +kernel
theorem d_X12_plain_48 : decode (yB m_X12_plain) 48 = .ok (.aload_n 0, 1) := by decide +kernel
theorem d_X12_plain_49 : decode (yB m_X12_plain) 49 = .ok (.aload_n 0, 1) := by decide +kernel
theorem d_X12_plain_50 : decode (yB m_X12_plain) 50 = .ok (.iload_n 1, 1) := by decide +kernel
theorem d_X12_plain_51 : decode (yB m_X12_plain) 51 = .ok (.iconst 1, 1) := by decide +kernel
theorem d_X12_plain_52 : decode (yB m_X12_plain) 52 = .ok (.if_icmp .ne 12, 3) := by decide +kernel
theorem d_X12_plain_55 : decode (yB m_X12_plain) 55 = .ok (.aload_n 0, 1) := by decide +kernel
theorem d_X12_plain_56 : decode (yB m_X12_plain) 56 = .ok (.getfield 17, 3) := by decide +kernel
theorem d_X12_plain_59 : decode (yB m_X12_plain) 59 = .ok (.iload_n 2, 1) := by decide +kernel
theorem d_X12_plain_60 : decode (yB m_X12_plain) 60 = .ok (.isub, 1) := by decide +kernel
theorem d_X12_plain_61 : decode (yB m_X12_plain) 61 = .ok (.goto 4, 3) := by decide +kernel
theorem d_X12_plain_64 : decode (yB m_X12_plain) 64 = .ok (.iconst 0, 1) := by decide +kernel
theorem d_X12_plain_65 : decode (yB m_X12_plain) 65 = .ok (.iload_n 1, 1) := by decide +kernel
theorem d_X12_plain_66 : decode (yB m_X12_plain) 66 = .ok (.iconst 3, 1) := by decide +kernel
theorem d_X12_plain_67 : decode (yB m_X12_plain) 67 = .ok (.if_icmp .ne 12, 3) := by decide +kernel
theorem d_X12_plain_70 : decode (yB m_X12_plain) 70 = .ok (.aload_n 0, 1) := by decide +kernel
theorem d_X12_plain_71 : decode (yB m_X12_plain) 71 = .ok (.getfield 20, 3) := by decide +kernel
theorem d_X12_plain_74 : decode (yB m_X12_plain) 74 = .ok (.iload_n 2, 1) := by decide +kernel
theorem d_X12_plain_75 : decode (yB m_X12_plain) 75 = .ok (.isub, 1) := by decide +kernel
theorem d_X12_plain_76 : decode (yB m_X12_plain) 76 = .ok (.goto 4, 3) := by decide +kernel
theorem d_X12_plain_79 : decode (yB m_X12_plain) 79 = .ok (.iconst 0, 1) := by decide +kernel
theorem d_X12_plain_80 : decode (yB m_X12_plain) 80 = .ok (.iload_n 1, 1) := by decide +kernel
theorem d_X12_plain_81 : decode (yB m_X12_plain) 81 = .ok (.iconst 2, 1) := by decide +kernel
theorem d_X12_plain_82 : decode (yB m_X12_plain) 82 = .ok (.if_icmp .ge 7, 3) := by decide +kernel
theorem d_X12_plain_85 : decode (yB m_X12_plain) 85 = .ok (.iload_n 2, 1) := by decide +kernel
theorem d_X12_plain_86 : decode (yB m_X12_plain) 86 = .ok (.goto 7, 3) := by decide +kernel
theorem d_X12_plain_89 : decode (yB m_X12_plain) 89 = .ok (.aload_n 0, 1) := by decide +kernel
theorem d_X12_plain_90 : decode (yB m_X12_plain) 90 = .ok (.getfield 17, 3) := by decide +kernel
theorem d_X12_plain_93 : decode (yB m_X12_plain) 93 = .ok (.iload_n 1, 1) := by decide +kernel
theorem d_X12_plain_94 : decode (yB m_X12_plain) 94 = .ok (.iconst 2, 1) := by decide +kernel
theorem d_X12_plain_95 : decode (yB m_X12_plain) 95 = .ok (.if_icmp .ge 10, 3) := by decide +kernel
theorem d_X12_plain_98 : decode (yB m_X12_plain) 98 = .ok (.aload_n 0, 1) := by decide +kernel
theorem d_X12_plain_99 : decode (yB m_X12_plain) 99 = .ok (.getfield 20, 3) := by decide +kernel
theorem d_X12_plain_102 : decode (yB m_X12_plain) 102 = .ok (.goto 4, 3) := by decide +kernel
theorem d_X12_plain_105 : decode (yB m_X12_plain) 105 = .ok (.iload_n 2, 1) := by decide +kernel
theorem d_X12_plain_106 : decode (yB m_X12_plain) 106 = .ok (.invokevirtual 278, 3) := by decide +kernel
theorem d_X12_plain_109 : decode (yB m_X12_plain) 109 = .ok (.invokevirtual 257, 3) := by decide +kernel
theorem d_X12_plain_112 : decode (yB m_X12_plain) 112 = .ok (.goto 332, 3) := by decide +kernel
theorem d_X12_plain_115 : decode (yB m_X12_plain) 115 = .ok (.aload_n 0, 1) := by decide +kernel
theorem d_X12_plain_116 : decode (yB m_X12_plain) 116 = .ok (.iconst 3, 1) := by decide +kernel
theorem d_X12_plain_117 : decode (yB m_X12_plain) 117 = .ok (.bipush 15, 2) := by decide +kernel
theorem d_X12_plain_119 : decode (yB m_X12_plain) 119 = .ok (.bipush 18, 2) := by decide +kernel
theorem d_X12_plain_121 : decode (yB m_X12_plain) 121 = .ok (.bipush 14, 2) := by decide +kernel
theorem d_X12_plain_123 : decode (yB m_X12_plain) 123 = .ok (.iconst 5, 1) := by decide +kernel
theorem d_X12_plain_124 : decode (yB m_X12_plain) 124 = .ok (.bipush 18, 2) := by decide +kernel
theorem d_X12_plain_126 : decode (yB m_X12_plain) 126 = .ok (.invokevirtual 162, 3) := by decide +kernel
theorem d_X12_plain_129 : decode (yB m_X12_plain) 129 = .ok (.ifCond .eq 87, 3) := by decide +kernel
theorem d_X12_plain_132 : decode (yB m_X12_plain) 132 = .ok (.aload_n 0, 1) := by decide +kernel
theorem d_X12_plain_133 : decode (yB m_X12_plain) 133 = .ok (.invokevirtual 166, 3) := by decide +kernel
theorem d_X12_plain_136 : decode (yB m_X12_plain) 136 = .ok (.aload_n 0, 1) := by decide +kernel
theorem d_X12_plain_137 : decode (yB m_X12_plain) 137 = .ok (.iconst 0, 1) := by decide +kernel
theorem d_X12_plain_138 : decode (yB m_X12_plain) 138 = .ok (.iconst 3, 1) := by decide +kernel
theorem d_X12_plain_139 : decode (yB m_X12_plain) 139 = .ok (.invokevirtual 191, 3) := by decide +kernel
theorem d_X12_plain_142 : decode (yB m_X12_plain) 142 = .ok (.istore_n 1, 1) := by decide +kernel
theorem d_X12_plain_143 : decode (yB m_X12_plain) 143 = .ok (.aload_n 0, 1) := by decide +kernel
theorem d_X12_plain_144 : decode (yB m_X12_plain) 144 = .ok (.iconst 1, 1) := by decide +kernel
theorem d_X12_plain_145 : decode (yB m_X12_plain) 145 = .ok (.aload_n 0, 1) := by decide +kernel
theorem d_X12_plain_146 : decode (yB m_X12_plain) 146 = .ok (.getfield 17, 3) := by decide +kernel
theorem d_X12_plain_149 : decode (yB m_X12_plain) 149 = .ok (.aload_n 0, 1) := by decide +kernel
theorem d_X12_plain_150 : decode (yB m_X12_plain) 150 = .ok (.getfield 20, 3) := by decide +kernel
theorem d_X12_plain_153 : decode (yB m_X12_plain) 153 = .ok (.if_icmp .ge 10, 3) := by decide +kernel
theorem d_X12_plain_156 : decode (yB m_X12_plain) 156 = .ok (.aload_n 0, 1) := by decide +kernel
theorem d_X12_plain_157 : decode (yB m_X12_plain) 157 = .ok (.getfield 17, 3) := by decide +kernel
theorem d_X12_plain_160 : decode (yB m_X12_plain) 160 = .ok (.goto 7, 3) := by decide +kernel
theorem d_X12_plain_163 : decode (yB m_X12_plain) 163 = .ok (.aload_n 0, 1) := by decide +kernel
theorem d_X12_plain_164 : decode (yB m_X12_plain) 164 = .ok (.getfield 20, 3) := by decide +kernel
theorem d_X12_plain_167 : decode (yB m_X12_plain) 167 = .ok (.invokevirtual 191, 3) := by decide +kernel
theorem d_X12_plain_170 : decode (yB m_X12_plain) 170 = .ok (.istore_n 2, 1) := by decide +kernel
theorem d_X12_plain_171 : decode (yB m_X12_plain) 171 = .ok (.aload_n 0, 1) := by decide +kernel
theorem d_X12_plain_172 : decode (yB m_X12_plain) 172 = .ok (.aload_n 0, 1) := by decide +kernel
theorem d_X12_plain_173 : decode (yB m_X12_plain) 173 = .ok (.iload_n 1, 1) := by decide +kernel
theorem d_X12_plain_174 : decode (yB m_X12_plain) 174 = .ok (.iconst 2, 1) := by decide +kernel
theorem d_X12_plain_175 : decode (yB m_X12_plain) 175 = .ok (.irem, 1) := by decide +kernel
theorem d_X12_plain_176 : decode (yB m_X12_plain) 176 = .ok (.iconst 1, 1) := by decide +kernel
theorem d_X12_plain_177 : decode (yB m_X12_plain) 177 = .ok (.if_icmp .ne 12, 3) := by decide +kernel
theorem d_X12_plain_180 : decode (yB m_X12_plain) 180 = .ok (.aload_n 0, 1) := by decide +kernel
theorem d_X12_plain_181 : decode (yB m_X12_plain) 181 = .ok (.getfield 17, 3) := by decide +kernel
theorem d_X12_plain_184 : decode (yB m_X12_plain) 184 = .ok (.iload_n 2, 1) := by decide +kernel
theorem d_X12_plain_185 : decode (yB m_X12_plain) 185 = .ok (.isub, 1) := by decide +kernel
theorem d_X12_plain_186 : decode (yB m_X12_plain) 186 = .ok (.goto 4, 3) := by decide +kernel
theorem d_X12_plain_189 : decode (yB m_X12_plain) 189 = .ok (.iconst 0, 1) := by decide +kernel
theorem d_X12_plain_190 : decode (yB m_X12_plain) 190 = .ok (.iload_n 1, 1) := by decide +kernel
theorem d_X12_plain_191 : decode (yB m_X12_plain) 191 = .ok (.iconst 1, 1) := by decide +kernel
theorem d_X12_plain_192 : decode (yB m_X12_plain) 192 = .ok (.if_icmp .le 12, 3) := by decide +kernel
theorem d_X12_plain_195 : decode (yB m_X12_plain) 195 = .ok (.aload_n 0, 1) := by decide +kernel
theorem d_X12_plain_196 : decode (yB m_X12_plain) 196 = .ok (.getfield 20, 3) := by decide +kernel
theorem d_X12_plain_199 : decode (yB m_X12_plain) 199 = .ok (.iload_n 2, 1) := by decide +kernel
theorem d_X12_plain_200 : decode (yB m_X12_plain) 200 = .ok (.isub, 1) := by decide +kernel
theorem d_X12_plain_201 : decode (yB m_X12_plain) 201 = .ok (.goto 4, 3) := by decide +kernel
theorem d_X12_plain_204 : decode (yB m_X12_plain) 204 = .ok (.iconst 0, 1) := by decide +kernel
theorem d_X12_plain_205 : decode (yB m_X12_plain) 205 = .ok (.iload_n 2, 1) := by decide +kernel
theorem d_X12_plain_206 : decode (yB m_X12_plain) 206 = .ok (.iload_n 2, 1) := by decide +kernel
theorem d_X12_plain_207 : decode (yB m_X12_plain) 207 = .ok (.invokevirtual 278, 3) := by decide +kernel
theorem d_X12_plain_210 : decode (yB m_X12_plain) 210 = .ok (.invokevirtual 257, 3) := by decide +kernel
theorem d_X12_plain_213 : decode (yB m_X12_plain) 213 = .ok (.goto 231, 3) := by decide +kernel
theorem d_X12_plain_216 : decode (yB m_X12_plain) 216 = .ok (.aload_n 0, 1) := by decide +kernel
theorem d_X12_plain_217 : decode (yB m_X12_plain) 217 = .ok (.iconst 1, 1) := by decide +kernel
theorem d_X12_plain_218 : decode (yB m_X12_plain) 218 = .ok (.bipush 14, 2) := by decide +kernel
theorem d_X12_plain_220 : decode (yB m_X12_plain) 220 = .ok (.bipush 25, 2) := by decide +kernel
theorem d_X12_plain_222 : decode (yB m_X12_plain) 222 = .ok (.iconst 0, 1) := by decide +kernel
theorem d_X12_plain_223 : decode (yB m_X12_plain) 223 = .ok (.iconst 0, 1) := by decide +kernel
theorem d_X12_plain_224 : decode (yB m_X12_plain) 224 = .ok (.iconst 0, 1) := by decide +kernel
theorem d_X12_plain_225 : decode (yB m_X12_plain) 225 = .ok (.invokevirtual 162, 3) := by decide +kernel
theorem d_X12_plain_228 : decode (yB m_X12_plain) 228 = .ok (.ifCond .eq 31, 3) := by decide +kernel
theorem d_X12_plain_231 : decode (yB m_X12_plain) 231 = .ok (.aload_n 0, 1) := by decide +kernel
theorem d_X12_plain_232 : decode (yB m_X12_plain) 232 = .ok (.invokevirtual 166, 3) := by decide +kernel
theorem d_X12_plain_235 : decode (yB m_X12_plain) 235 = .ok (.aload_n 0, 1) := by decide +kernel
theorem d_X12_plain_236 : decode (yB m_X12_plain) 236 = .ok (.iconst 0, 1) := by decide +kernel
theorem d_X12_plain_237 : decode (yB m_X12_plain) 237 = .ok (.iconst 3, 1) := by decide +kernel
theorem d_X12_plain_238 : decode (yB m_X12_plain) 238 = .ok (.invokevirtual 191, 3) := by decide +kernel
theorem d_X12_plain_241 : decode (yB m_X12_plain) 241 = .ok (.istore_n 1, 1) := by decide +kernel
theorem d_X12_plain_242 : decode (yB m_X12_plain) 242 = .ok (.aload_n 0, 1) := by decide +kernel
theorem d_X12_plain_243 : decode (yB m_X12_plain) 243 = .ok (.getfield 129, 3) := by decide +kernel
theorem d_X12_plain_246 : decode (yB m_X12_plain) 246 = .ok (.ifCond .ne 10, 3) := by decide +kernel
theorem d_X12_plain_249 : decode (yB m_X12_plain) 249 = .ok (.aload_n 0, 1) := by decide +kernel
theorem d_X12_plain_250 : decode (yB m_X12_plain) 250 = .ok (.iconst 0, 1) := by decide +kernel
theorem d_X12_plain_251 : decode (yB m_X12_plain) 251 = .ok (.iload_n 1, 1) := by decide +kernel
theorem d_X12_plain_252 : decode (yB m_X12_plain) 252 = .ok (.iconst 0, 1) := by decide +kernel
theorem d_X12_plain_253 : decode (yB m_X12_plain) 253 = .ok (.invokevirtual 282, 3) := by decide +kernel
theorem d_X12_plain_256 : decode (yB m_X12_plain) 256 = .ok (.goto 188, 3) := by decide +kernel
theorem d_X12_plain_259 : decode (yB m_X12_plain) 259 = .ok (.aload_n 0, 1) := by decide +kernel
theorem d_X12_plain_260 : decode (yB m_X12_plain) 260 = .ok (.bipush 6, 2) := by decide +kernel
theorem d_X12_plain_262 : decode (yB m_X12_plain) 262 = .ok (.bipush 18, 2) := by decide +kernel
theorem d_X12_plain_264 : decode (yB m_X12_plain) 264 = .ok (.bipush 15, 2) := by decide +kernel
theorem d_X12_plain_266 : decode (yB m_X12_plain) 266 = .ok (.bipush 14, 2) := by decide +kernel
theorem d_X12_plain_268 : decode (yB m_X12_plain) 268 = .ok (.bipush 20, 2) := by decide +kernel
theorem d_X12_plain_270 : decode (yB m_X12_plain) 270 = .ok (.iconst 0, 1) := by decide +kernel
theorem d_X12_plain_271 : decode (yB m_X12_plain) 271 = .ok (.invokevirtual 162, 3) := by decide +kernel
theorem d_X12_plain_274 : decode (yB m_X12_plain) 274 = .ok (.ifCond .eq 79, 3) := by decide +kernel
theorem d_X12_plain_277 : decode (yB m_X12_plain) 277 = .ok (.aload_n 0, 1) := by decide +kernel
theorem d_X12_plain_278 : decode (yB m_X12_plain) 278 = .ok (.invokevirtual 166, 3) := by decide +kernel
theorem d_X12_plain_281 : decode (yB m_X12_plain) 281 = .ok (.aload_n 0, 1) := by decide +kernel
theorem d_X12_plain_282 : decode (yB m_X12_plain) 282 = .ok (.iconst 0, 1) := by decide +kernel
theorem d_X12_plain_283 : decode (yB m_X12_plain) 283 = .ok (.aload_n 0, 1) := by decide +kernel
theorem d_X12_plain_284 : decode (yB m_X12_plain) 284 = .ok (.getfield 17, 3) := by decide +kernel
theorem d_X12_plain_287 : decode (yB m_X12_plain) 287 = .ok (.iconst 1, 1) := by decide +kernel
theorem d_X12_plain_288 : decode (yB m_X12_plain) 288 = .ok (.isub, 1) := by decide +kernel
theorem d_X12_plain_289 : decode (yB m_X12_plain) 289 = .ok (.invokevirtual 191, 3) := by decide +kernel
theorem d_X12_plain_292 : decode (yB m_X12_plain) 292 = .ok (.istore_n 1, 1) := by decide +kernel
theorem d_X12_plain_293 : decode (yB m_X12_plain) 293 = .ok (.aload_n 0, 1) := by decide +kernel
theorem d_X12_plain_294 : decode (yB m_X12_plain) 294 = .ok (.iconst 0, 1) := by decide +kernel
theorem d_X12_plain_295 : decode (yB m_X12_plain) 295 = .ok (.aload_n 0, 1) := by decide +kernel
theorem d_X12_plain_296 : decode (yB m_X12_plain) 296 = .ok (.getfield 20, 3) := by decide +kernel
theorem d_X12_plain_299 : decode (yB m_X12_plain) 299 = .ok (.iconst 1, 1) := by decide +kernel
theorem d_X12_plain_300 : decode (yB m_X12_plain) 300 = .ok (.isub, 1) := by decide +kernel
theorem d_X12_plain_301 : decode (yB m_X12_plain) 301 = .ok (.invokevirtual 191, 3) := by decide +kernel
theorem d_X12_plain_304 : decode (yB m_X12_plain) 304 = .ok (.istore_n 2, 1) := by decide +kernel
theorem d_X12_plain_305 : decode (yB m_X12_plain) 305 = .ok (.aload_n 0, 1) := by decide +kernel
theorem d_X12_plain_306 : decode (yB m_X12_plain) 306 = .ok (.iconst 1, 1) := by decide +kernel
theorem d_X12_plain_307 : decode (yB m_X12_plain) 307 = .ok (.aload_n 0, 1) := by decide +kernel
theorem d_X12_plain_308 : decode (yB m_X12_plain) 308 = .ok (.getfield 17, 3) := by decide +kernel
theorem d_X12_plain_311 : decode (yB m_X12_plain) 311 = .ok (.iload_n 1, 1) := by decide +kernel
theorem d_X12_plain_312 : decode (yB m_X12_plain) 312 = .ok (.isub, 1) := by decide +kernel
theorem d_X12_plain_313 : decode (yB m_X12_plain) 313 = .ok (.invokevirtual 191, 3) := by decide +kernel
theorem d_X12_plain_316 : decode (yB m_X12_plain) 316 = .ok (.istore_n 3, 1) := by decide +kernel
theorem d_X12_plain_317 : decode (yB m_X12_plain) 317 = .ok (.aload_n 0, 1) := by decide +kernel
theorem d_X12_plain_318 : decode (yB m_X12_plain) 318 = .ok (.iconst 1, 1) := by decide +kernel
theorem d_X12_plain_319 : decode (yB m_X12_plain) 319 = .ok (.aload_n 0, 1) := by decide +kernel
theorem d_X12_plain_320 : decode (yB m_X12_plain) 320 = .ok (.getfield 20, 3) := by decide +kernel
theorem d_X12_plain_323 : decode (yB m_X12_plain) 323 = .ok (.iload_n 2, 1) := by decide +kernel
theorem d_X12_plain_324 : decode (yB m_X12_plain) 324 = .ok (.isub, 1) := by decide +kernel
theorem d_X12_plain_325 : decode (yB m_X12_plain) 325 = .ok (.invokevirtual 191, 3) := by decide +kernel
theorem d_X12_plain_328 : decode (yB m_X12_plain) 328 = .ok (.istore 4, 2) := by decide +kernel
theorem d_X12_plain_330 : decode (yB m_X12_plain) 330 = .ok (.aload_n 0, 1) := by decide +kernel
theorem d_X12_plain_331 : decode (yB m_X12_plain) 331 = .ok (.getfield 129, 3) := by decide +kernel
theorem d_X12_plain_334 : decode (yB m_X12_plain) 334 = .ok (.ifCond .ne 16, 3) := by decide +kernel
theorem d_X12_plain_337 : decode (yB m_X12_plain) 337 = .ok (.aload_n 0, 1) := by decide +kernel
theorem d_X12_plain_338 : decode (yB m_X12_plain) 338 = .ok (.aload_n 0, 1) := by decide +kernel
theorem d_X12_plain_339 : decode (yB m_X12_plain) 339 = .ok (.iload_n 1, 1) := by decide +kernel
theorem d_X12_plain_340 : decode (yB m_X12_plain) 340 = .ok (.iload_n 2, 1) := by decide +kernel
theorem d_X12_plain_341 : decode (yB m_X12_plain) 341 = .ok (.iload_n 3, 1) := by decide +kernel
theorem d_X12_plain_342 : decode (yB m_X12_plain) 342 = .ok (.iload 4, 2) := by decide +kernel
theorem d_X12_plain_344 : decode (yB m_X12_plain) 344 = .ok (.invokevirtual 278, 3) := by decide +kernel
theorem d_X12_plain_347 : decode (yB m_X12_plain) 347 = .ok (.invokevirtual 257, 3) := by decide +kernel
theorem d_X12_plain_350 : decode (yB m_X12_plain) 350 = .ok (.goto 94, 3) := by decide +kernel
theorem d_X12_plain_353 : decode (yB m_X12_plain) 353 = .ok (.aload_n 0, 1) := by decide +kernel
theorem d_X12_plain_354 : decode (yB m_X12_plain) 354 = .ok (.bipush 6, 2) := by decide +kernel
theorem d_X12_plain_356 : decode (yB m_X12_plain) 356 = .ok (.bipush 15, 2) := by decide +kernel
theorem d_X12_plain_358 : decode (yB m_X12_plain) 358 = .ok (.bipush 7, 2) := by decide +kernel
theorem d_X12_plain_360 : decode (yB m_X12_plain) 360 = .ok (.iconst 0, 1) := by decide +kernel
theorem d_X12_plain_361 : decode (yB m_X12_plain) 361 = .ok (.iconst 0, 1) := by decide +kernel
theorem d_X12_plain_362 : decode (yB m_X12_plain) 362 = .ok (.iconst 0, 1) := by decide +kernel
theorem d_X12_plain_363 : decode (yB m_X12_plain) 363 = .ok (.invokevirtual 162, 3) := by decide +kernel
theorem d_X12_plain_366 : decode (yB m_X12_plain) 366 = .ok (.ifCond .eq 69, 3) := by decide +kernel
theorem d_X12_plain_369 : decode (yB m_X12_plain) 369 = .ok (.aload_n 0, 1) := by decide +kernel
theorem d_X12_plain_370 : decode (yB m_X12_plain) 370 = .ok (.invokevirtual 166, 3) := by decide +kernel
theorem d_X12_plain_373 : decode (yB m_X12_plain) 373 = .ok (.aload_n 0, 1) := by decide +kernel
theorem d_X12_plain_374 : decode (yB m_X12_plain) 374 = .ok (.iconst 0, 1) := by decide +kernel
theorem d_X12_plain_375 : decode (yB m_X12_plain) 375 = .ok (.iconst 1, 1) := by decide +kernel
theorem d_X12_plain_376 : decode (yB m_X12_plain) 376 = .ok (.invokevirtual 191, 3) := by decide +kernel
theorem d_X12_plain_379 : decode (yB m_X12_plain) 379 = .ok (.istore_n 1, 1) := by decide +kernel
theorem d_X12_plain_380 : decode (yB m_X12_plain) 380 = .ok (.iconst 0, 1) := by decide +kernel
theorem d_X12_plain_381 : decode (yB m_X12_plain) 381 = .ok (.istore_n 2, 1) := by decide +kernel
theorem d_X12_plain_382 : decode (yB m_X12_plain) 382 = .ok (.iconst 0, 1) := by decide +kernel
theorem d_X12_plain_383 : decode (yB m_X12_plain) 383 = .ok (.istore_n 3, 1) := by decide +kernel
theorem d_X12_plain_384 : decode (yB m_X12_plain) 384 = .ok (.iload_n 3, 1) := by decide +kernel
theorem d_X12_plain_385 : decode (yB m_X12_plain) 385 = .ok (.aload_n 0, 1) := by decide +kernel
theorem d_X12_plain_386 : decode (yB m_X12_plain) 386 = .ok (.invokevirtual 242, 3) := by decide +kernel
theorem d_X12_plain_389 : decode (yB m_X12_plain) 389 = .ok (.if_icmp .ge 38, 3) := by decide +kernel
theorem d_X12_plain_392 : decode (yB m_X12_plain) 392 = .ok (.iload_n 2, 1) := by decide +kernel
theorem d_X12_plain_393 : decode (yB m_X12_plain) 393 = .ok (.iload_n 3, 1) := by decide +kernel
theorem d_X12_plain_394 : decode (yB m_X12_plain) 394 = .ok (.aload_n 0, 1) := by decide +kernel
theorem d_X12_plain_395 : decode (yB m_X12_plain) 395 = .ok (.getfield 17, 3) := by decide +kernel
theorem d_X12_plain_398 : decode (yB m_X12_plain) 398 = .ok (.irem, 1) := by decide +kernel
theorem d_X12_plain_399 : decode (yB m_X12_plain) 399 = .ok (.iload_n 3, 1) := by decide +kernel
theorem d_X12_plain_400 : decode (yB m_X12_plain) 400 = .ok (.aload_n 0, 1) := by decide +kernel
theorem d_X12_plain_401 : decode (yB m_X12_plain) 401 = .ok (.getfield 17, 3) := by decide +kernel
theorem d_X12_plain_404 : decode (yB m_X12_plain) 404 = .ok (.idiv, 1) := by decide +kernel
theorem d_X12_plain_405 : decode (yB m_X12_plain) 405 = .ok (.iadd, 1) := by decide +kernel
theorem d_X12_plain_406 : decode (yB m_X12_plain) 406 = .ok (.iconst 2, 1) := by decide +kernel
theorem d_X12_plain_407 : decode (yB m_X12_plain) 407 = .ok (.irem, 1) := by decide +kernel
theorem d_X12_plain_408 : decode (yB m_X12_plain) 408 = .ok (.iload_n 1, 1) := by decide +kernel
theorem d_X12_plain_409 : decode (yB m_X12_plain) 409 = .ok (.if_icmp .ne 9, 3) := by decide +kernel
theorem d_X12_plain_412 : decode (yB m_X12_plain) 412 = .ok (.iconst 1, 1) := by decide +kernel
theorem d_X12_plain_413 : decode (yB m_X12_plain) 413 = .ok (.iload_n 3, 1) := by decide +kernel
theorem d_X12_plain_414 : decode (yB m_X12_plain) 414 = .ok (.ishl, 1) := by decide +kernel
theorem d_X12_plain_415 : decode (yB m_X12_plain) 415 = .ok (.goto 4, 3) := by decide +kernel
theorem d_X12_plain_418 : decode (yB m_X12_plain) 418 = .ok (.iconst 0, 1) := by decide +kernel
theorem d_X12_plain_419 : decode (yB m_X12_plain) 419 = .ok (.ior, 1) := by decide +kernel
theorem d_X12_plain_420 : decode (yB m_X12_plain) 420 = .ok (.istore_n 2, 1) := by decide +kernel
theorem d_X12_plain_421 : decode (yB m_X12_plain) 421 = .ok (.iinc 3 1, 3) := by decide +kernel
theorem d_X12_plain_424 : decode (yB m_X12_plain) 424 = .ok (.goto (-40), 3) := by decide +kernel
theorem d_X12_plain_427 : decode (yB m_X12_plain) 427 = .ok (.aload_n 0, 1) := by decide +kernel
theorem d_X12_plain_428 : decode (yB m_X12_plain) 428 = .ok (.iload_n 2, 1) := by decide +kernel
theorem d_X12_plain_429 : decode (yB m_X12_plain) 429 = .ok (.invokevirtual 257, 3) := by decide +kernel
theorem d_X12_plain_432 : decode (yB m_X12_plain) 432 = .ok (.goto 12, 3) := by decide +kernel
theorem d_X12_plain_435 : decode (yB m_X12_plain) 435 = .ok (.aload_n 0, 1) := by decide +kernel
theorem d_X12_plain_436 : decode (yB m_X12_plain) 436 = .ok (.iconst 1, 1) := by decide +kernel
theorem d_X12_plain_437 : decode (yB m_X12_plain) 437 = .ok (.aload_n 0, 1) := by decide +kernel
theorem d_X12_plain_438 : decode (yB m_X12_plain) 438 = .ok (.getfield 122, 3) := by decide +kernel
theorem d_X12_plain_441 : decode (yB m_X12_plain) 441 = .ok (.invokevirtual 142, 3) := by decide +kernel
theorem d_X12_plain_444 : decode (yB m_X12_plain) 444 = .ok (.return_, 1) := by decide +kernel
def fn_X12_plain_384  : Nat → Int32 → Int32 → Int32 → zD → Option zD
  | 0, _, _, _, _ => none
  | n + 1, v1, v2, v3, D => (fn_X12_cells D).bind fun x14 => (if x14 ≤ v3 then ((fn_X12_makes v2 D).bind fun D16 => (some D16)) else (zdv (gI D 102 14) <| zdv (gI D 102 14) <| zdv (2 : Int32) <| (if (((v3 - v3 / (gI D 102 14) * (gI D 102 14)) + (v3 / (gI D 102 14))) - ((v3 - v3 / (gI D 102 14) * (gI D 102 14)) + (v3 / (gI D 102 14))) / (2 : Int32) * (2 : Int32)) = v1 then (zlet (v2 ||| ((1 : Int32) <<< (v3 &&& 31))) fun x19 => ((fn_X12_plain_384  n) v1 x19 (v3 + (1 : Int32)) D)) else (zlet (v2 ||| (0 : Int32)) fun x18 => ((fn_X12_plain_384  n) v1 x18 (v3 + (1 : Int32)) D)))))
def fn_X12_plain_205  (v2 : Int32) (w2 : Int32) (w3 : Int32) (D : zD) : Option zD := (fn_X12_block w2 w3 v2 v2 D).bind fun x38 => (fn_X12_makes x38 D).bind fun D39 => (some D39)
def fn_X12_plain_190  (v1 : Int32) (v2 : Int32) (w2 : Int32) (D : zD) : Option zD := (if v1 ≤ (1 : Int32) then ((fn_X12_plain_205 v2 w2 (0 : Int32) D)) else ((fn_X12_plain_205 v2 w2 ((gI D 102 15) - v2) D)))
def fn_X12_plain_167  (v1 : Int32) (w1 : Int32) (w2 : Int32) (D : zD) : Option zD := (fn_X12_number w1 w2 D).bind fun q35 => zdv (2 : Int32) <| (if (v1 - v1 / (2 : Int32) * (2 : Int32)) = (1 : Int32) then ((fn_X12_plain_190 v1 q35.1 ((gI q35.2 102 14) - q35.1) q35.2)) else ((fn_X12_plain_190 v1 q35.1 (0 : Int32) q35.2)))
def fn_X12_plain_106  (w2 : Int32) (w3 : Int32) (w4 : Int32) (w5 : Int32) (D : zD) : Option zD := (fn_X12_block w2 w3 w4 w5 D).bind fun x48 => (fn_X12_makes x48 D).bind fun D49 => (some D49)
def fn_X12_plain_93  (v1 : Int32) (v2 : Int32) (w2 : Int32) (w3 : Int32) (w4 : Int32) (D : zD) : Option zD := (if (2 : Int32) ≤ v1 then ((fn_X12_plain_106 w2 w3 w4 v2 D)) else ((fn_X12_plain_106 w2 w3 w4 (gI D 102 15) D)))
def fn_X12_plain_80  (v1 : Int32) (v2 : Int32) (w2 : Int32) (w3 : Int32) (D : zD) : Option zD := (if (2 : Int32) ≤ v1 then ((fn_X12_plain_93 v1 v2 w2 w3 (gI D 102 14) D)) else ((fn_X12_plain_93 v1 v2 w2 w3 v2 D)))
def fn_X12_plain_65  (v1 : Int32) (v2 : Int32) (w2 : Int32) (D : zD) : Option zD := (if v1 = (3 : Int32) then ((fn_X12_plain_80 v1 v2 w2 ((gI D 102 15) - v2) D)) else ((fn_X12_plain_80 v1 v2 w2 (0 : Int32) D)))
def fn_X12_plain_44  (v1 : Int32) (w1 : Int32) (w2 : Int32) (D : zD) : Option zD := (fn_X12_number w1 w2 D).bind fun q43 => (if v1 = (1 : Int32) then ((fn_X12_plain_65 v1 q43.1 ((gI q43.2 102 14) - q43.1) q43.2)) else ((fn_X12_plain_65 v1 q43.1 (0 : Int32) q43.2)))
def fn_X12_plain (D : zD) : Option zD := (fn_X12_isWord (19 : Int32) (9 : Int32) (4 : Int32) (5 : Int32) (0 : Int32) (0 : Int32) D).bind fun q1 => (if q1.1 = 0 then ((fn_X12_isWord (3 : Int32) (15 : Int32) (18 : Int32) (14 : Int32) (5 : Int32) (18 : Int32) q1.2).bind fun q3 => (if q3.1 = 0 then ((fn_X12_isWord (1 : Int32) (14 : Int32) (25 : Int32) (0 : Int32) (0 : Int32) (0 : Int32) q3.2).bind fun q5 => (if q5.1 = 0 then ((fn_X12_isWord (6 : Int32) (18 : Int32) (15 : Int32) (14 : Int32) (20 : Int32) (0 : Int32) q5.2).bind fun q7 => (if q7.1 = 0 then ((fn_X12_isWord (6 : Int32) (15 : Int32) (7 : Int32) (0 : Int32) (0 : Int32) (0 : Int32) q7.2).bind fun q9 => (if q9.1 = 0 then ((fn_X12_wrong (1 : Int32) (gI q9.2 102 4) q9.2).bind fun D11 => (some D11)) else ((fn_X12_skipWord q9.2).bind fun D12 => (fn_X12_number (0 : Int32) (1 : Int32) D12).bind fun q13 => (fn_X12_plain_384 zFU q13.1 (0 : Int32) (0 : Int32) q13.2)))) else ((fn_X12_skipWord q7.2).bind fun D20 => (fn_X12_number (0 : Int32) ((gI D20 102 14) - (1 : Int32)) D20).bind fun q21 => (fn_X12_number (0 : Int32) ((gI q21.2 102 15) - (1 : Int32)) q21.2).bind fun q22 => (fn_X12_number (1 : Int32) ((gI q22.2 102 14) - q21.1) q22.2).bind fun q23 => (fn_X12_number (1 : Int32) ((gI q23.2 102 15) - q22.1) q23.2).bind fun q24 => (if (gI q24.2 102 5) = 0 then ((fn_X12_block q21.1 q22.1 q23.1 q24.1 q24.2).bind fun x26 => (fn_X12_makes x26 q24.2).bind fun D27 => (some D27)) else ((some q24.2)))))) else ((fn_X12_skipWord q5.2).bind fun D28 => (fn_X12_number (0 : Int32) (3 : Int32) D28).bind fun q29 => (if (gI q29.2 102 5) = 0 then ((fn_X12_anyOfT (0 : Int32) q29.1 (0 : Int32) q29.2).bind fun D31 => (some D31)) else ((some q29.2)))))) else ((fn_X12_skipWord q3.2).bind fun D32 => (fn_X12_number (0 : Int32) (3 : Int32) D32).bind fun q33 => (if (gI q33.2 102 15) ≤ (gI q33.2 102 14) then ((fn_X12_plain_167 q33.1 (1 : Int32) (gI q33.2 102 15) q33.2)) else ((fn_X12_plain_167 q33.1 (1 : Int32) (gI q33.2 102 14) q33.2)))))) else ((fn_X12_skipWord q1.2).bind fun D40 => (fn_X12_number (0 : Int32) (3 : Int32) D40).bind fun q41 => (if (2 : Int32) ≤ q41.1 then ((fn_X12_plain_44 q41.1 (1 : Int32) (gI q41.2 102 15) q41.2)) else ((fn_X12_plain_44 q41.1 (1 : Int32) (gI q41.2 102 14) q41.2)))))
theorem s_X12_plain_384 {X : zX} {Sh : zSh} {d : Nat} (hst : (zl X).stackTraces = false) (h0 : zSh0 Sh) (hd : 101 ≤ d)  : ∀ (n : Nat) (v1 : Int32) (v2 : Int32) (v3 : Int32) (D : zD) , Rn X m_X12_plain (d + 1) 384 [(0, .ref 102), (1, .int v1), (2, .int v2), (3, .int v3)] [] (Sh, D) ((oV Sh) (fn_X12_plain_384  n v1 v2 v3 D)) := by
  intro n
  induction n with
  | zero => intro v1 v2 v3 D; exact Rn_none rfl
  | succ n hk384 =>
    intro v1 v2 v3 D
    rw [fn_X12_plain_384]
    refine r_iload_n (pc := 384) 3 d_X12_plain_384 rfl rfl ?_
    refine r_aload_n (pc := 385) 0 d_X12_plain_385 rfl rfl ?_
    refine q_cP (f := (oV Sh)) (av := [.ref 102]) (st := [.int v3]) (z_runV ck_X12_cells rfl ml_X12_242 ci_X12_cells cv_X12_cells (K_102 h0) (ci := 12) rfl rfl (Nat.le_of_ble_eq_true rfl) d_X12_plain_386) (s_X12_cells hst h0 (by omega)) kp_V (fun x14 _ => ?_)
    refine r_icmp_ge (f := (oV Sh)) (pc := 389) 427 d_X12_plain_389 (by decide) (fun c15 => ?_) (fun c15 => ?_)
    · refine r_aload_n (pc := 427) 0 d_X12_plain_427 rfl rfl ?_
      refine r_iload_n (pc := 428) 2 d_X12_plain_428 rfl rfl ?_
      refine q_cV (f := (oV Sh)) (av := [.ref 102, .int v2]) (st := []) (z_runV ck_X12_makes rfl ml_X12_257 ci_X12_makes cv_X12_makes (K_102 h0) (ci := 12) rfl rfl (Nat.le_of_ble_eq_true rfl) d_X12_plain_429) (s_X12_makes hst h0 (by omega)) kp_V (fun D16 _ => ?_)
      refine r_goto (pc := 432) 444 d_X12_plain_432 (by decide) ?_
      exact r_vret (pc := 444) rfl d_X12_plain_444
    · refine r_iload_n (pc := 392) 2 d_X12_plain_392 rfl rfl ?_
      refine r_iload_n (pc := 393) 3 d_X12_plain_393 rfl rfl ?_
      refine r_aload_n (pc := 394) 0 d_X12_plain_394 rfl rfl ?_
      refine q_gI (pc := 395) g_X12_17 (K_102 h0) rfl d_X12_plain_395 ?_
      refine r_irem (f := (oV Sh)) (pc := 398) d_X12_plain_398 rfl ?_
      refine r_iload_n (pc := 399) 3 d_X12_plain_399 rfl rfl ?_
      refine r_aload_n (pc := 400) 0 d_X12_plain_400 rfl rfl ?_
      refine q_gI (pc := 401) g_X12_17 (K_102 h0) rfl d_X12_plain_401 ?_
      refine r_idiv (f := (oV Sh)) (pc := 404) d_X12_plain_404 rfl ?_
      refine r_iadd (pc := 405) d_X12_plain_405 ?_
      refine r_iconst (pc := 406) (2 : Int32) d_X12_plain_406 rfl ?_
      refine r_irem (f := (oV Sh)) (pc := 407) d_X12_plain_407 rfl ?_
      refine r_iload_n (pc := 408) 1 d_X12_plain_408 rfl rfl ?_
      refine r_icmp_ne (f := (oV Sh)) (pc := 409) 418 d_X12_plain_409 (by decide) (fun c17 => ?_) (fun c17 => ?_)
      · refine r_iconst (pc := 418) (0 : Int32) d_X12_plain_418 rfl ?_
        refine r_ior (pc := 419) d_X12_plain_419 ?_
        refine r_leti (f := (oV Sh)) (fun x18 => ?_)
        refine r_istore_n (pc := 420) (ls' := [(2, .int x18), (0, .ref 102), (1, .int v1), (3, .int v3)]) d_X12_plain_420 rfl (Nat.le_of_ble_eq_true rfl) rfl ?_
        refine r_iinc (pc := 421) ((v3 + (1 : Int32))) 3 (ls' := [(3, .int (v3 + (1 : Int32))), (2, .int x18), (0, .ref 102), (1, .int v1)]) d_X12_plain_421 rfl rfl (Nat.le_of_ble_eq_true rfl) rfl ?_
        refine r_goto (pc := 424) 384 d_X12_plain_424 (by decide) ?_
        refine r_pick [2, 3, 1, 0] (ls' := [(0, .ref 102), (1, .int v1), (2, .int x18), (3, .int (v3 + (1 : Int32)))]) rfl ?_
        exact hk384 v1 x18 (v3 + (1 : Int32)) D 
      · refine r_iconst (pc := 412) (1 : Int32) d_X12_plain_412 rfl ?_
        refine r_iload_n (pc := 413) 3 d_X12_plain_413 rfl rfl ?_
        refine r_ishl (pc := 414) d_X12_plain_414 ?_
        refine r_goto (pc := 415) 419 d_X12_plain_415 (by decide) ?_
        refine r_ior (pc := 419) d_X12_plain_419 ?_
        refine r_leti (f := (oV Sh)) (fun x19 => ?_)
        refine r_istore_n (pc := 420) (ls' := [(2, .int x19), (0, .ref 102), (1, .int v1), (3, .int v3)]) d_X12_plain_420 rfl (Nat.le_of_ble_eq_true rfl) rfl ?_
        refine r_iinc (pc := 421) ((v3 + (1 : Int32))) 3 (ls' := [(3, .int (v3 + (1 : Int32))), (2, .int x19), (0, .ref 102), (1, .int v1)]) d_X12_plain_421 rfl rfl (Nat.le_of_ble_eq_true rfl) rfl ?_
        refine r_goto (pc := 424) 384 d_X12_plain_424 (by decide) ?_
        refine r_pick [2, 3, 1, 0] (ls' := [(0, .ref 102), (1, .int v1), (2, .int x19), (3, .int (v3 + (1 : Int32)))]) rfl ?_
        exact hk384 v1 x19 (v3 + (1 : Int32)) D 
theorem s_X12_plain_205 {X : zX} {Sh : zSh} {d : Nat} (hst : (zl X).stackTraces = false) (h0 : zSh0 Sh) (hd : 101 ≤ d)  (v2 : Int32) (w2 : Int32) (w3 : Int32) (D : zD)  : Rn X m_X12_plain (d + 1) 205 [(2, .int v2)] [.int w3, .int w2, .ref 102, .ref 102] (Sh, D) ((oV Sh) (fn_X12_plain_205  v2 w2 w3 D)) := by
  rw [fn_X12_plain_205]
  refine r_iload_n (pc := 205) 0 d_X12_plain_205 rfl rfl ?_
  refine r_iload_n (pc := 206) 0 d_X12_plain_206 rfl rfl ?_
  refine q_cP (f := (oV Sh)) (av := [.ref 102, .int w2, .int w3, .int v2, .int v2]) (st := [.ref 102]) (z_runV ck_X12_block rfl ml_X12_278 ci_X12_block cv_X12_block (K_102 h0) (ci := 12) rfl rfl (Nat.le_of_ble_eq_true rfl) d_X12_plain_207) (s_X12_block hst h0 (by omega)) kp_V (fun x38 _ => ?_)
  refine q_cV (f := (oV Sh)) (av := [.ref 102, .int x38]) (st := []) (z_runV ck_X12_makes rfl ml_X12_257 ci_X12_makes cv_X12_makes (K_102 h0) (ci := 12) rfl rfl (Nat.le_of_ble_eq_true rfl) d_X12_plain_210) (s_X12_makes hst h0 (by omega)) kp_V (fun D39 _ => ?_)
  refine r_goto (pc := 213) 444 d_X12_plain_213 (by decide) ?_
  exact r_vret (pc := 444) rfl d_X12_plain_444
theorem s_X12_plain_190 {X : zX} {Sh : zSh} {d : Nat} (hst : (zl X).stackTraces = false) (h0 : zSh0 Sh) (hd : 101 ≤ d)  (v1 : Int32) (v2 : Int32) (w2 : Int32) (D : zD)  : Rn X m_X12_plain (d + 1) 190 [(0, .ref 102), (1, .int v1), (2, .int v2)] [.int w2, .ref 102, .ref 102] (Sh, D) ((oV Sh) (fn_X12_plain_190  v1 v2 w2 D)) := by
  rw [fn_X12_plain_190]
  refine r_iload_n (pc := 190) 1 d_X12_plain_190 rfl rfl ?_
  refine r_iconst (pc := 191) (1 : Int32) d_X12_plain_191 rfl ?_
  refine r_icmp_le (f := (oV Sh)) (pc := 192) 204 d_X12_plain_192 (by decide) (fun c37 => ?_) (fun c37 => ?_)
  · refine r_iconst (pc := 204) (0 : Int32) d_X12_plain_204 rfl ?_
    refine r_pick [2] (ls' := [(2, .int v2)]) rfl ?_
    exact s_X12_plain_205 hst h0 hd v2 w2 (0 : Int32) D
  · refine r_aload_n (pc := 195) 0 d_X12_plain_195 rfl rfl ?_
    refine q_gI (pc := 196) g_X12_20 (K_102 h0) rfl d_X12_plain_196 ?_
    refine r_iload_n (pc := 199) 2 d_X12_plain_199 rfl rfl ?_
    refine r_isub (pc := 200) d_X12_plain_200 ?_
    refine r_goto (pc := 201) 205 d_X12_plain_201 (by decide) ?_
    refine r_pick [2] (ls' := [(2, .int v2)]) rfl ?_
    exact s_X12_plain_205 hst h0 hd v2 w2 ((gI D 102 15) - v2) D
theorem s_X12_plain_167 {X : zX} {Sh : zSh} {d : Nat} (hst : (zl X).stackTraces = false) (h0 : zSh0 Sh) (hd : 101 ≤ d)  (v1 : Int32) (w1 : Int32) (w2 : Int32) (D : zD)  : Rn X m_X12_plain (d + 1) 167 [(0, .ref 102), (1, .int v1)] [.int w2, .int w1, .ref 102] (Sh, D) ((oV Sh) (fn_X12_plain_167  v1 w1 w2 D)) := by
  rw [fn_X12_plain_167]
  refine q_cI (f := (oV Sh)) (av := [.ref 102, .int w1, .int w2]) (st := []) (z_runV ck_X12_number rfl ml_X12_191 ci_X12_number cv_X12_number (K_102 h0) (ci := 12) rfl rfl (Nat.le_of_ble_eq_true rfl) d_X12_plain_167) (s_X12_number hst h0 (by omega)) kp_V (fun q35 _ => ?_)
  refine r_istore_n (pc := 170) (ls' := [(2, .int q35.1), (0, .ref 102), (1, .int v1)]) d_X12_plain_170 rfl (Nat.le_of_ble_eq_true rfl) rfl ?_
  refine r_aload_n (pc := 171) 1 d_X12_plain_171 rfl rfl ?_
  refine r_aload_n (pc := 172) 1 d_X12_plain_172 rfl rfl ?_
  refine r_iload_n (pc := 173) 2 d_X12_plain_173 rfl rfl ?_
  refine r_iconst (pc := 174) (2 : Int32) d_X12_plain_174 rfl ?_
  refine r_irem (f := (oV Sh)) (pc := 175) d_X12_plain_175 rfl ?_
  refine r_iconst (pc := 176) (1 : Int32) d_X12_plain_176 rfl ?_
  refine r_icmp_ne (f := (oV Sh)) (pc := 177) 189 d_X12_plain_177 (by decide) (fun c36 => ?_) (fun c36 => ?_)
  · refine r_iconst (pc := 189) (0 : Int32) d_X12_plain_189 rfl ?_
    refine r_pick [1, 2, 0] (ls' := [(0, .ref 102), (1, .int v1), (2, .int q35.1)]) rfl ?_
    exact s_X12_plain_190 hst h0 hd v1 q35.1 (0 : Int32) q35.2
  · refine r_aload_n (pc := 180) 1 d_X12_plain_180 rfl rfl ?_
    refine q_gI (pc := 181) g_X12_17 (K_102 h0) rfl d_X12_plain_181 ?_
    refine r_iload_n (pc := 184) 0 d_X12_plain_184 rfl rfl ?_
    refine r_isub (pc := 185) d_X12_plain_185 ?_
    refine r_goto (pc := 186) 190 d_X12_plain_186 (by decide) ?_
    refine r_pick [1, 2, 0] (ls' := [(0, .ref 102), (1, .int v1), (2, .int q35.1)]) rfl ?_
    exact s_X12_plain_190 hst h0 hd v1 q35.1 ((gI q35.2 102 14) - q35.1) q35.2
theorem s_X12_plain_106 {X : zX} {Sh : zSh} {d : Nat} (hst : (zl X).stackTraces = false) (h0 : zSh0 Sh) (hd : 101 ≤ d)  (w2 : Int32) (w3 : Int32) (w4 : Int32) (w5 : Int32) (D : zD)  : Rn X m_X12_plain (d + 1) 106 [] [.int w5, .int w4, .int w3, .int w2, .ref 102, .ref 102] (Sh, D) ((oV Sh) (fn_X12_plain_106  w2 w3 w4 w5 D)) := by
  rw [fn_X12_plain_106]
  refine q_cP (f := (oV Sh)) (av := [.ref 102, .int w2, .int w3, .int w4, .int w5]) (st := [.ref 102]) (z_runV ck_X12_block rfl ml_X12_278 ci_X12_block cv_X12_block (K_102 h0) (ci := 12) rfl rfl (Nat.le_of_ble_eq_true rfl) d_X12_plain_106) (s_X12_block hst h0 (by omega)) kp_V (fun x48 _ => ?_)
  refine q_cV (f := (oV Sh)) (av := [.ref 102, .int x48]) (st := []) (z_runV ck_X12_makes rfl ml_X12_257 ci_X12_makes cv_X12_makes (K_102 h0) (ci := 12) rfl rfl (Nat.le_of_ble_eq_true rfl) d_X12_plain_109) (s_X12_makes hst h0 (by omega)) kp_V (fun D49 _ => ?_)
  refine r_goto (pc := 112) 444 d_X12_plain_112 (by decide) ?_
  exact r_vret (pc := 444) rfl d_X12_plain_444
theorem s_X12_plain_93 {X : zX} {Sh : zSh} {d : Nat} (hst : (zl X).stackTraces = false) (h0 : zSh0 Sh) (hd : 101 ≤ d)  (v1 : Int32) (v2 : Int32) (w2 : Int32) (w3 : Int32) (w4 : Int32) (D : zD)  : Rn X m_X12_plain (d + 1) 93 [(0, .ref 102), (1, .int v1), (2, .int v2)] [.int w4, .int w3, .int w2, .ref 102, .ref 102] (Sh, D) ((oV Sh) (fn_X12_plain_93  v1 v2 w2 w3 w4 D)) := by
  rw [fn_X12_plain_93]
  refine r_iload_n (pc := 93) 1 d_X12_plain_93 rfl rfl ?_
  refine r_iconst (pc := 94) (2 : Int32) d_X12_plain_94 rfl ?_
  refine r_icmp_ge (f := (oV Sh)) (pc := 95) 105 d_X12_plain_95 (by decide) (fun c47 => ?_) (fun c47 => ?_)
  · refine r_iload_n (pc := 105) 2 d_X12_plain_105 rfl rfl ?_
    refine r_pick [] (ls' := []) rfl ?_
    exact s_X12_plain_106 hst h0 hd w2 w3 w4 v2 D
  · refine r_aload_n (pc := 98) 0 d_X12_plain_98 rfl rfl ?_
    refine q_gI (pc := 99) g_X12_20 (K_102 h0) rfl d_X12_plain_99 ?_
    refine r_goto (pc := 102) 106 d_X12_plain_102 (by decide) ?_
    refine r_pick [] (ls' := []) rfl ?_
    exact s_X12_plain_106 hst h0 hd w2 w3 w4 (gI D 102 15) D
theorem s_X12_plain_80 {X : zX} {Sh : zSh} {d : Nat} (hst : (zl X).stackTraces = false) (h0 : zSh0 Sh) (hd : 101 ≤ d)  (v1 : Int32) (v2 : Int32) (w2 : Int32) (w3 : Int32) (D : zD)  : Rn X m_X12_plain (d + 1) 80 [(0, .ref 102), (1, .int v1), (2, .int v2)] [.int w3, .int w2, .ref 102, .ref 102] (Sh, D) ((oV Sh) (fn_X12_plain_80  v1 v2 w2 w3 D)) := by
  rw [fn_X12_plain_80]
  refine r_iload_n (pc := 80) 1 d_X12_plain_80 rfl rfl ?_
  refine r_iconst (pc := 81) (2 : Int32) d_X12_plain_81 rfl ?_
  refine r_icmp_ge (f := (oV Sh)) (pc := 82) 89 d_X12_plain_82 (by decide) (fun c46 => ?_) (fun c46 => ?_)
  · refine r_aload_n (pc := 89) 0 d_X12_plain_89 rfl rfl ?_
    refine q_gI (pc := 90) g_X12_17 (K_102 h0) rfl d_X12_plain_90 ?_
    refine r_pick [0, 1, 2] (ls' := [(0, .ref 102), (1, .int v1), (2, .int v2)]) rfl ?_
    exact s_X12_plain_93 hst h0 hd v1 v2 w2 w3 (gI D 102 14) D
  · refine r_iload_n (pc := 85) 2 d_X12_plain_85 rfl rfl ?_
    refine r_goto (pc := 86) 93 d_X12_plain_86 (by decide) ?_
    refine r_pick [0, 1, 2] (ls' := [(0, .ref 102), (1, .int v1), (2, .int v2)]) rfl ?_
    exact s_X12_plain_93 hst h0 hd v1 v2 w2 w3 v2 D
theorem s_X12_plain_65 {X : zX} {Sh : zSh} {d : Nat} (hst : (zl X).stackTraces = false) (h0 : zSh0 Sh) (hd : 101 ≤ d)  (v1 : Int32) (v2 : Int32) (w2 : Int32) (D : zD)  : Rn X m_X12_plain (d + 1) 65 [(0, .ref 102), (1, .int v1), (2, .int v2)] [.int w2, .ref 102, .ref 102] (Sh, D) ((oV Sh) (fn_X12_plain_65  v1 v2 w2 D)) := by
  rw [fn_X12_plain_65]
  refine r_iload_n (pc := 65) 1 d_X12_plain_65 rfl rfl ?_
  refine r_iconst (pc := 66) (3 : Int32) d_X12_plain_66 rfl ?_
  refine r_icmp_ne (f := (oV Sh)) (pc := 67) 79 d_X12_plain_67 (by decide) (fun c45 => ?_) (fun c45 => ?_)
  · refine r_iconst (pc := 79) (0 : Int32) d_X12_plain_79 rfl ?_
    refine r_pick [0, 1, 2] (ls' := [(0, .ref 102), (1, .int v1), (2, .int v2)]) rfl ?_
    exact s_X12_plain_80 hst h0 hd v1 v2 w2 (0 : Int32) D
  · refine r_aload_n (pc := 70) 0 d_X12_plain_70 rfl rfl ?_
    refine q_gI (pc := 71) g_X12_20 (K_102 h0) rfl d_X12_plain_71 ?_
    refine r_iload_n (pc := 74) 2 d_X12_plain_74 rfl rfl ?_
    refine r_isub (pc := 75) d_X12_plain_75 ?_
    refine r_goto (pc := 76) 80 d_X12_plain_76 (by decide) ?_
    refine r_pick [0, 1, 2] (ls' := [(0, .ref 102), (1, .int v1), (2, .int v2)]) rfl ?_
    exact s_X12_plain_80 hst h0 hd v1 v2 w2 ((gI D 102 15) - v2) D
theorem s_X12_plain_44 {X : zX} {Sh : zSh} {d : Nat} (hst : (zl X).stackTraces = false) (h0 : zSh0 Sh) (hd : 101 ≤ d)  (v1 : Int32) (w1 : Int32) (w2 : Int32) (D : zD)  : Rn X m_X12_plain (d + 1) 44 [(0, .ref 102), (1, .int v1)] [.int w2, .int w1, .ref 102] (Sh, D) ((oV Sh) (fn_X12_plain_44  v1 w1 w2 D)) := by
  rw [fn_X12_plain_44]
  refine q_cI (f := (oV Sh)) (av := [.ref 102, .int w1, .int w2]) (st := []) (z_runV ck_X12_number rfl ml_X12_191 ci_X12_number cv_X12_number (K_102 h0) (ci := 12) rfl rfl (Nat.le_of_ble_eq_true rfl) d_X12_plain_44) (s_X12_number hst h0 (by omega)) kp_V (fun q43 _ => ?_)
  refine r_istore_n (pc := 47) (ls' := [(2, .int q43.1), (0, .ref 102), (1, .int v1)]) d_X12_plain_47 rfl (Nat.le_of_ble_eq_true rfl) rfl ?_
  refine r_aload_n (pc := 48) 1 d_X12_plain_48 rfl rfl ?_
  refine r_aload_n (pc := 49) 1 d_X12_plain_49 rfl rfl ?_
  refine r_iload_n (pc := 50) 2 d_X12_plain_50 rfl rfl ?_
  refine r_iconst (pc := 51) (1 : Int32) d_X12_plain_51 rfl ?_
  refine r_icmp_ne (f := (oV Sh)) (pc := 52) 64 d_X12_plain_52 (by decide) (fun c44 => ?_) (fun c44 => ?_)
  · refine r_iconst (pc := 64) (0 : Int32) d_X12_plain_64 rfl ?_
    refine r_pick [1, 2, 0] (ls' := [(0, .ref 102), (1, .int v1), (2, .int q43.1)]) rfl ?_
    exact s_X12_plain_65 hst h0 hd v1 q43.1 (0 : Int32) q43.2
  · refine r_aload_n (pc := 55) 1 d_X12_plain_55 rfl rfl ?_
    refine q_gI (pc := 56) g_X12_17 (K_102 h0) rfl d_X12_plain_56 ?_
    refine r_iload_n (pc := 59) 0 d_X12_plain_59 rfl rfl ?_
    refine r_isub (pc := 60) d_X12_plain_60 ?_
    refine r_goto (pc := 61) 65 d_X12_plain_61 (by decide) ?_
    refine r_pick [1, 2, 0] (ls' := [(0, .ref 102), (1, .int v1), (2, .int q43.1)]) rfl ?_
    exact s_X12_plain_65 hst h0 hd v1 q43.1 ((gI q43.2 102 14) - q43.1) q43.2
theorem s_X12_plain {X : zX} {Sh : zSh} {d : Nat} (hst : (zl X).stackTraces = false) (h0 : zSh0 Sh) (hd : 102 ≤ d)  {D : zD} : Sd X m_X12_plain d [.ref 102] (Sh, D) ((oV Sh) (fn_X12_plain D)) := by
  obtain ⟨d, rfl⟩ : ∃ e, d = e + 1 := ⟨d - 1, by omega⟩
  replace hd : 101 ≤ d := by omega
  refine z_body ck_X12_plain rfl (Nat.le_of_ble_eq_true rfl) rfl hst ?_
  rw [fn_X12_plain]
  show Rn X m_X12_plain (d + 1) 0 [(0, .ref 102)] [] (Sh, D) _
  refine r_aload_n (pc := 0) 0 d_X12_plain_0 rfl rfl ?_
  refine r_bipush (pc := 1) (19 : Int32) d_X12_plain_1 rfl ?_
  refine r_bipush (pc := 3) (9 : Int32) d_X12_plain_3 rfl ?_
  refine r_iconst (pc := 5) (4 : Int32) d_X12_plain_5 rfl ?_
  refine r_iconst (pc := 6) (5 : Int32) d_X12_plain_6 rfl ?_
  refine r_iconst (pc := 7) (0 : Int32) d_X12_plain_7 rfl ?_
  refine r_iconst (pc := 8) (0 : Int32) d_X12_plain_8 rfl ?_
  refine q_cI (f := (oV Sh)) (av := [.ref 102, .int (19 : Int32), .int (9 : Int32), .int (4 : Int32), .int (5 : Int32), .int (0 : Int32), .int (0 : Int32)]) (st := []) (z_runV ck_X12_isWord rfl ml_X12_162 ci_X12_isWord cv_X12_isWord (K_102 h0) (ci := 12) rfl rfl (Nat.le_of_ble_eq_true rfl) d_X12_plain_9) (s_X12_isWord hst h0 (by omega)) kp_V (fun q1 _ => ?_)
  refine r_if_eq (f := (oV Sh)) (pc := 12) 115 d_X12_plain_12 (by decide) (fun c2 => ?_) (fun c2 => ?_)
  · refine r_aload_n (pc := 115) 0 d_X12_plain_115 rfl rfl ?_
    refine r_iconst (pc := 116) (3 : Int32) d_X12_plain_116 rfl ?_
    refine r_bipush (pc := 117) (15 : Int32) d_X12_plain_117 rfl ?_
    refine r_bipush (pc := 119) (18 : Int32) d_X12_plain_119 rfl ?_
    refine r_bipush (pc := 121) (14 : Int32) d_X12_plain_121 rfl ?_
    refine r_iconst (pc := 123) (5 : Int32) d_X12_plain_123 rfl ?_
    refine r_bipush (pc := 124) (18 : Int32) d_X12_plain_124 rfl ?_
    refine q_cI (f := (oV Sh)) (av := [.ref 102, .int (3 : Int32), .int (15 : Int32), .int (18 : Int32), .int (14 : Int32), .int (5 : Int32), .int (18 : Int32)]) (st := []) (z_runV ck_X12_isWord rfl ml_X12_162 ci_X12_isWord cv_X12_isWord (K_102 h0) (ci := 12) rfl rfl (Nat.le_of_ble_eq_true rfl) d_X12_plain_126) (s_X12_isWord hst h0 (by omega)) kp_V (fun q3 _ => ?_)
    refine r_if_eq (f := (oV Sh)) (pc := 129) 216 d_X12_plain_129 (by decide) (fun c4 => ?_) (fun c4 => ?_)
    · refine r_aload_n (pc := 216) 0 d_X12_plain_216 rfl rfl ?_
      refine r_iconst (pc := 217) (1 : Int32) d_X12_plain_217 rfl ?_
      refine r_bipush (pc := 218) (14 : Int32) d_X12_plain_218 rfl ?_
      refine r_bipush (pc := 220) (25 : Int32) d_X12_plain_220 rfl ?_
      refine r_iconst (pc := 222) (0 : Int32) d_X12_plain_222 rfl ?_
      refine r_iconst (pc := 223) (0 : Int32) d_X12_plain_223 rfl ?_
      refine r_iconst (pc := 224) (0 : Int32) d_X12_plain_224 rfl ?_
      refine q_cI (f := (oV Sh)) (av := [.ref 102, .int (1 : Int32), .int (14 : Int32), .int (25 : Int32), .int (0 : Int32), .int (0 : Int32), .int (0 : Int32)]) (st := []) (z_runV ck_X12_isWord rfl ml_X12_162 ci_X12_isWord cv_X12_isWord (K_102 h0) (ci := 12) rfl rfl (Nat.le_of_ble_eq_true rfl) d_X12_plain_225) (s_X12_isWord hst h0 (by omega)) kp_V (fun q5 _ => ?_)
      refine r_if_eq (f := (oV Sh)) (pc := 228) 259 d_X12_plain_228 (by decide) (fun c6 => ?_) (fun c6 => ?_)
      · refine r_aload_n (pc := 259) 0 d_X12_plain_259 rfl rfl ?_
        refine r_bipush (pc := 260) (6 : Int32) d_X12_plain_260 rfl ?_
        refine r_bipush (pc := 262) (18 : Int32) d_X12_plain_262 rfl ?_
        refine r_bipush (pc := 264) (15 : Int32) d_X12_plain_264 rfl ?_
        refine r_bipush (pc := 266) (14 : Int32) d_X12_plain_266 rfl ?_
        refine r_bipush (pc := 268) (20 : Int32) d_X12_plain_268 rfl ?_
        refine r_iconst (pc := 270) (0 : Int32) d_X12_plain_270 rfl ?_
        refine q_cI (f := (oV Sh)) (av := [.ref 102, .int (6 : Int32), .int (18 : Int32), .int (15 : Int32), .int (14 : Int32), .int (20 : Int32), .int (0 : Int32)]) (st := []) (z_runV ck_X12_isWord rfl ml_X12_162 ci_X12_isWord cv_X12_isWord (K_102 h0) (ci := 12) rfl rfl (Nat.le_of_ble_eq_true rfl) d_X12_plain_271) (s_X12_isWord hst h0 (by omega)) kp_V (fun q7 _ => ?_)
        refine r_if_eq (f := (oV Sh)) (pc := 274) 353 d_X12_plain_274 (by decide) (fun c8 => ?_) (fun c8 => ?_)
        · refine r_aload_n (pc := 353) 0 d_X12_plain_353 rfl rfl ?_
          refine r_bipush (pc := 354) (6 : Int32) d_X12_plain_354 rfl ?_
          refine r_bipush (pc := 356) (15 : Int32) d_X12_plain_356 rfl ?_
          refine r_bipush (pc := 358) (7 : Int32) d_X12_plain_358 rfl ?_
          refine r_iconst (pc := 360) (0 : Int32) d_X12_plain_360 rfl ?_
          refine r_iconst (pc := 361) (0 : Int32) d_X12_plain_361 rfl ?_
          refine r_iconst (pc := 362) (0 : Int32) d_X12_plain_362 rfl ?_
          refine q_cI (f := (oV Sh)) (av := [.ref 102, .int (6 : Int32), .int (15 : Int32), .int (7 : Int32), .int (0 : Int32), .int (0 : Int32), .int (0 : Int32)]) (st := []) (z_runV ck_X12_isWord rfl ml_X12_162 ci_X12_isWord cv_X12_isWord (K_102 h0) (ci := 12) rfl rfl (Nat.le_of_ble_eq_true rfl) d_X12_plain_363) (s_X12_isWord hst h0 (by omega)) kp_V (fun q9 _ => ?_)
          refine r_if_eq (f := (oV Sh)) (pc := 366) 435 d_X12_plain_366 (by decide) (fun c10 => ?_) (fun c10 => ?_)
          · refine r_aload_n (pc := 435) 0 d_X12_plain_435 rfl rfl ?_
            refine r_iconst (pc := 436) (1 : Int32) d_X12_plain_436 rfl ?_
            refine r_aload_n (pc := 437) 0 d_X12_plain_437 rfl rfl ?_
            refine q_gI (pc := 438) g_X12_122 (K_102 h0) rfl d_X12_plain_438 ?_
            refine q_cV (f := (oV Sh)) (av := [.ref 102, .int (1 : Int32), .int (gI q9.2 102 4)]) (st := []) (z_runV ck_X12_wrong rfl ml_X12_142 ci_X12_wrong cv_X12_wrong (K_102 h0) (ci := 12) rfl rfl (Nat.le_of_ble_eq_true rfl) d_X12_plain_441) (s_X12_wrong hst h0 (by omega)) kp_V (fun D11 _ => ?_)
            exact r_vret (pc := 444) rfl d_X12_plain_444
          · refine r_aload_n (pc := 369) 0 d_X12_plain_369 rfl rfl ?_
            refine q_cV (f := (oV Sh)) (av := [.ref 102]) (st := []) (z_runV ck_X12_skipWord rfl ml_X12_166 ci_X12_skipWord cv_X12_skipWord (K_102 h0) (ci := 12) rfl rfl (Nat.le_of_ble_eq_true rfl) d_X12_plain_370) (s_X12_skipWord hst h0 (by omega)) kp_V (fun D12 _ => ?_)
            refine r_aload_n (pc := 373) 0 d_X12_plain_373 rfl rfl ?_
            refine r_iconst (pc := 374) (0 : Int32) d_X12_plain_374 rfl ?_
            refine r_iconst (pc := 375) (1 : Int32) d_X12_plain_375 rfl ?_
            refine q_cI (f := (oV Sh)) (av := [.ref 102, .int (0 : Int32), .int (1 : Int32)]) (st := []) (z_runV ck_X12_number rfl ml_X12_191 ci_X12_number cv_X12_number (K_102 h0) (ci := 12) rfl rfl (Nat.le_of_ble_eq_true rfl) d_X12_plain_376) (s_X12_number hst h0 (by omega)) kp_V (fun q13 _ => ?_)
            refine r_istore_n (pc := 379) (ls' := [(1, .int q13.1), (0, .ref 102)]) d_X12_plain_379 rfl (Nat.le_of_ble_eq_true rfl) rfl ?_
            refine r_iconst (pc := 380) (0 : Int32) d_X12_plain_380 rfl ?_
            refine r_istore_n (pc := 381) (ls' := [(2, .int (0 : Int32)), (1, .int q13.1), (0, .ref 102)]) d_X12_plain_381 rfl (Nat.le_of_ble_eq_true rfl) rfl ?_
            refine r_iconst (pc := 382) (0 : Int32) d_X12_plain_382 rfl ?_
            refine r_istore_n (pc := 383) (ls' := [(3, .int (0 : Int32)), (2, .int (0 : Int32)), (1, .int q13.1), (0, .ref 102)]) d_X12_plain_383 rfl (Nat.le_of_ble_eq_true rfl) rfl ?_
            refine r_pick [3, 2, 1, 0] (ls' := [(0, .ref 102), (1, .int q13.1), (2, .int (0 : Int32)), (3, .int (0 : Int32))]) rfl ?_
            exact s_X12_plain_384 hst h0 hd zFU  q13.1 (0 : Int32) (0 : Int32) q13.2
        · refine r_aload_n (pc := 277) 0 d_X12_plain_277 rfl rfl ?_
          refine q_cV (f := (oV Sh)) (av := [.ref 102]) (st := []) (z_runV ck_X12_skipWord rfl ml_X12_166 ci_X12_skipWord cv_X12_skipWord (K_102 h0) (ci := 12) rfl rfl (Nat.le_of_ble_eq_true rfl) d_X12_plain_278) (s_X12_skipWord hst h0 (by omega)) kp_V (fun D20 _ => ?_)
          refine r_aload_n (pc := 281) 0 d_X12_plain_281 rfl rfl ?_
          refine r_iconst (pc := 282) (0 : Int32) d_X12_plain_282 rfl ?_
          refine r_aload_n (pc := 283) 0 d_X12_plain_283 rfl rfl ?_
          refine q_gI (pc := 284) g_X12_17 (K_102 h0) rfl d_X12_plain_284 ?_
          refine r_iconst (pc := 287) (1 : Int32) d_X12_plain_287 rfl ?_
          refine r_isub (pc := 288) d_X12_plain_288 ?_
          refine q_cI (f := (oV Sh)) (av := [.ref 102, .int (0 : Int32), .int ((gI D20 102 14) - (1 : Int32))]) (st := []) (z_runV ck_X12_number rfl ml_X12_191 ci_X12_number cv_X12_number (K_102 h0) (ci := 12) rfl rfl (Nat.le_of_ble_eq_true rfl) d_X12_plain_289) (s_X12_number hst h0 (by omega)) kp_V (fun q21 _ => ?_)
          refine r_istore_n (pc := 292) (ls' := [(1, .int q21.1), (0, .ref 102)]) d_X12_plain_292 rfl (Nat.le_of_ble_eq_true rfl) rfl ?_
          refine r_aload_n (pc := 293) 1 d_X12_plain_293 rfl rfl ?_
          refine r_iconst (pc := 294) (0 : Int32) d_X12_plain_294 rfl ?_
          refine r_aload_n (pc := 295) 1 d_X12_plain_295 rfl rfl ?_
          refine q_gI (pc := 296) g_X12_20 (K_102 h0) rfl d_X12_plain_296 ?_
          refine r_iconst (pc := 299) (1 : Int32) d_X12_plain_299 rfl ?_
          refine r_isub (pc := 300) d_X12_plain_300 ?_
          refine q_cI (f := (oV Sh)) (av := [.ref 102, .int (0 : Int32), .int ((gI q21.2 102 15) - (1 : Int32))]) (st := []) (z_runV ck_X12_number rfl ml_X12_191 ci_X12_number cv_X12_number (K_102 h0) (ci := 12) rfl rfl (Nat.le_of_ble_eq_true rfl) d_X12_plain_301) (s_X12_number hst h0 (by omega)) kp_V (fun q22 _ => ?_)
          refine r_istore_n (pc := 304) (ls' := [(2, .int q22.1), (1, .int q21.1), (0, .ref 102)]) d_X12_plain_304 rfl (Nat.le_of_ble_eq_true rfl) rfl ?_
          refine r_aload_n (pc := 305) 2 d_X12_plain_305 rfl rfl ?_
          refine r_iconst (pc := 306) (1 : Int32) d_X12_plain_306 rfl ?_
          refine r_aload_n (pc := 307) 2 d_X12_plain_307 rfl rfl ?_
          refine q_gI (pc := 308) g_X12_17 (K_102 h0) rfl d_X12_plain_308 ?_
          refine r_iload_n (pc := 311) 1 d_X12_plain_311 rfl rfl ?_
          refine r_isub (pc := 312) d_X12_plain_312 ?_
          refine q_cI (f := (oV Sh)) (av := [.ref 102, .int (1 : Int32), .int ((gI q22.2 102 14) - q21.1)]) (st := []) (z_runV ck_X12_number rfl ml_X12_191 ci_X12_number cv_X12_number (K_102 h0) (ci := 12) rfl rfl (Nat.le_of_ble_eq_true rfl) d_X12_plain_313) (s_X12_number hst h0 (by omega)) kp_V (fun q23 _ => ?_)
          refine r_istore_n (pc := 316) (ls' := [(3, .int q23.1), (2, .int q22.1), (1, .int q21.1), (0, .ref 102)]) d_X12_plain_316 rfl (Nat.le_of_ble_eq_true rfl) rfl ?_
          refine r_aload_n (pc := 317) 3 d_X12_plain_317 rfl rfl ?_
          refine r_iconst (pc := 318) (1 : Int32) d_X12_plain_318 rfl ?_
          refine r_aload_n (pc := 319) 3 d_X12_plain_319 rfl rfl ?_
          refine q_gI (pc := 320) g_X12_20 (K_102 h0) rfl d_X12_plain_320 ?_
          refine r_iload_n (pc := 323) 1 d_X12_plain_323 rfl rfl ?_
          refine r_isub (pc := 324) d_X12_plain_324 ?_
          refine q_cI (f := (oV Sh)) (av := [.ref 102, .int (1 : Int32), .int ((gI q23.2 102 15) - q22.1)]) (st := []) (z_runV ck_X12_number rfl ml_X12_191 ci_X12_number cv_X12_number (K_102 h0) (ci := 12) rfl rfl (Nat.le_of_ble_eq_true rfl) d_X12_plain_325) (s_X12_number hst h0 (by omega)) kp_V (fun q24 _ => ?_)
          refine r_istore (pc := 328) (ls' := [(4, .int q24.1), (3, .int q23.1), (2, .int q22.1), (1, .int q21.1), (0, .ref 102)]) d_X12_plain_328 (Nat.le_of_ble_eq_true rfl) rfl ?_
          refine r_aload_n (pc := 330) 4 d_X12_plain_330 rfl rfl ?_
          refine q_gI (pc := 331) g_X12_129 (K_102 h0) rfl d_X12_plain_331 ?_
          refine r_if_ne (f := (oV Sh)) (pc := 334) 350 d_X12_plain_334 (by decide) (fun c25 => ?_) (fun c25 => ?_)
          · refine r_goto (pc := 350) 444 d_X12_plain_350 (by decide) ?_
            exact r_vret (pc := 444) rfl d_X12_plain_444
          · refine r_aload_n (pc := 337) 4 d_X12_plain_337 rfl rfl ?_
            refine r_aload_n (pc := 338) 4 d_X12_plain_338 rfl rfl ?_
            refine r_iload_n (pc := 339) 3 d_X12_plain_339 rfl rfl ?_
            refine r_iload_n (pc := 340) 2 d_X12_plain_340 rfl rfl ?_
            refine r_iload_n (pc := 341) 1 d_X12_plain_341 rfl rfl ?_
            refine r_iload (pc := 342) 0 d_X12_plain_342 rfl ?_
            refine q_cP (f := (oV Sh)) (av := [.ref 102, .int q21.1, .int q22.1, .int q23.1, .int q24.1]) (st := [.ref 102]) (z_runV ck_X12_block rfl ml_X12_278 ci_X12_block cv_X12_block (K_102 h0) (ci := 12) rfl rfl (Nat.le_of_ble_eq_true rfl) d_X12_plain_344) (s_X12_block hst h0 (by omega)) kp_V (fun x26 _ => ?_)
            refine q_cV (f := (oV Sh)) (av := [.ref 102, .int x26]) (st := []) (z_runV ck_X12_makes rfl ml_X12_257 ci_X12_makes cv_X12_makes (K_102 h0) (ci := 12) rfl rfl (Nat.le_of_ble_eq_true rfl) d_X12_plain_347) (s_X12_makes hst h0 (by omega)) kp_V (fun D27 _ => ?_)
            refine r_goto (pc := 350) 444 d_X12_plain_350 (by decide) ?_
            exact r_vret (pc := 444) rfl d_X12_plain_444
      · refine r_aload_n (pc := 231) 0 d_X12_plain_231 rfl rfl ?_
        refine q_cV (f := (oV Sh)) (av := [.ref 102]) (st := []) (z_runV ck_X12_skipWord rfl ml_X12_166 ci_X12_skipWord cv_X12_skipWord (K_102 h0) (ci := 12) rfl rfl (Nat.le_of_ble_eq_true rfl) d_X12_plain_232) (s_X12_skipWord hst h0 (by omega)) kp_V (fun D28 _ => ?_)
        refine r_aload_n (pc := 235) 0 d_X12_plain_235 rfl rfl ?_
        refine r_iconst (pc := 236) (0 : Int32) d_X12_plain_236 rfl ?_
        refine r_iconst (pc := 237) (3 : Int32) d_X12_plain_237 rfl ?_
        refine q_cI (f := (oV Sh)) (av := [.ref 102, .int (0 : Int32), .int (3 : Int32)]) (st := []) (z_runV ck_X12_number rfl ml_X12_191 ci_X12_number cv_X12_number (K_102 h0) (ci := 12) rfl rfl (Nat.le_of_ble_eq_true rfl) d_X12_plain_238) (s_X12_number hst h0 (by omega)) kp_V (fun q29 _ => ?_)
        refine r_istore_n (pc := 241) (ls' := [(1, .int q29.1), (0, .ref 102)]) d_X12_plain_241 rfl (Nat.le_of_ble_eq_true rfl) rfl ?_
        refine r_aload_n (pc := 242) 1 d_X12_plain_242 rfl rfl ?_
        refine q_gI (pc := 243) g_X12_129 (K_102 h0) rfl d_X12_plain_243 ?_
        refine r_if_ne (f := (oV Sh)) (pc := 246) 256 d_X12_plain_246 (by decide) (fun c30 => ?_) (fun c30 => ?_)
        · refine r_goto (pc := 256) 444 d_X12_plain_256 (by decide) ?_
          exact r_vret (pc := 444) rfl d_X12_plain_444
        · refine r_aload_n (pc := 249) 1 d_X12_plain_249 rfl rfl ?_
          refine r_iconst (pc := 250) (0 : Int32) d_X12_plain_250 rfl ?_
          refine r_iload_n (pc := 251) 0 d_X12_plain_251 rfl rfl ?_
          refine r_iconst (pc := 252) (0 : Int32) d_X12_plain_252 rfl ?_
          refine q_cV (f := (oV Sh)) (av := [.ref 102, .int (0 : Int32), .int q29.1, .int (0 : Int32)]) (st := []) (z_runV ck_X12_anyOf rfl ml_X12_282 ci_X12_anyOf cv_X12_anyOf (K_102 h0) (ci := 12) rfl rfl (Nat.le_of_ble_eq_true rfl) d_X12_plain_253) (s_X12_anyOfT hst h0 (by omega)) kp_V (fun D31 _ => ?_)
          refine r_goto (pc := 256) 444 d_X12_plain_256 (by decide) ?_
          exact r_vret (pc := 444) rfl d_X12_plain_444
    · refine r_aload_n (pc := 132) 0 d_X12_plain_132 rfl rfl ?_
      refine q_cV (f := (oV Sh)) (av := [.ref 102]) (st := []) (z_runV ck_X12_skipWord rfl ml_X12_166 ci_X12_skipWord cv_X12_skipWord (K_102 h0) (ci := 12) rfl rfl (Nat.le_of_ble_eq_true rfl) d_X12_plain_133) (s_X12_skipWord hst h0 (by omega)) kp_V (fun D32 _ => ?_)
      refine r_aload_n (pc := 136) 0 d_X12_plain_136 rfl rfl ?_
      refine r_iconst (pc := 137) (0 : Int32) d_X12_plain_137 rfl ?_
      refine r_iconst (pc := 138) (3 : Int32) d_X12_plain_138 rfl ?_
      refine q_cI (f := (oV Sh)) (av := [.ref 102, .int (0 : Int32), .int (3 : Int32)]) (st := []) (z_runV ck_X12_number rfl ml_X12_191 ci_X12_number cv_X12_number (K_102 h0) (ci := 12) rfl rfl (Nat.le_of_ble_eq_true rfl) d_X12_plain_139) (s_X12_number hst h0 (by omega)) kp_V (fun q33 _ => ?_)
      refine r_istore_n (pc := 142) (ls' := [(1, .int q33.1), (0, .ref 102)]) d_X12_plain_142 rfl (Nat.le_of_ble_eq_true rfl) rfl ?_
      refine r_aload_n (pc := 143) 1 d_X12_plain_143 rfl rfl ?_
      refine r_iconst (pc := 144) (1 : Int32) d_X12_plain_144 rfl ?_
      refine r_aload_n (pc := 145) 1 d_X12_plain_145 rfl rfl ?_
      refine q_gI (pc := 146) g_X12_17 (K_102 h0) rfl d_X12_plain_146 ?_
      refine r_aload_n (pc := 149) 1 d_X12_plain_149 rfl rfl ?_
      refine q_gI (pc := 150) g_X12_20 (K_102 h0) rfl d_X12_plain_150 ?_
      refine r_icmp_ge (f := (oV Sh)) (pc := 153) 163 d_X12_plain_153 (by decide) (fun c34 => ?_) (fun c34 => ?_)
      · refine r_aload_n (pc := 163) 1 d_X12_plain_163 rfl rfl ?_
        refine q_gI (pc := 164) g_X12_20 (K_102 h0) rfl d_X12_plain_164 ?_
        refine r_pick [1, 0] (ls' := [(0, .ref 102), (1, .int q33.1)]) rfl ?_
        exact s_X12_plain_167 hst h0 hd q33.1 (1 : Int32) (gI q33.2 102 15) q33.2
      · refine r_aload_n (pc := 156) 1 d_X12_plain_156 rfl rfl ?_
        refine q_gI (pc := 157) g_X12_17 (K_102 h0) rfl d_X12_plain_157 ?_
        refine r_goto (pc := 160) 167 d_X12_plain_160 (by decide) ?_
        refine r_pick [1, 0] (ls' := [(0, .ref 102), (1, .int q33.1)]) rfl ?_
        exact s_X12_plain_167 hst h0 hd q33.1 (1 : Int32) (gI q33.2 102 14) q33.2
  · refine r_aload_n (pc := 15) 0 d_X12_plain_15 rfl rfl ?_
    refine q_cV (f := (oV Sh)) (av := [.ref 102]) (st := []) (z_runV ck_X12_skipWord rfl ml_X12_166 ci_X12_skipWord cv_X12_skipWord (K_102 h0) (ci := 12) rfl rfl (Nat.le_of_ble_eq_true rfl) d_X12_plain_16) (s_X12_skipWord hst h0 (by omega)) kp_V (fun D40 _ => ?_)
    refine r_aload_n (pc := 19) 0 d_X12_plain_19 rfl rfl ?_
    refine r_iconst (pc := 20) (0 : Int32) d_X12_plain_20 rfl ?_
    refine r_iconst (pc := 21) (3 : Int32) d_X12_plain_21 rfl ?_
    refine q_cI (f := (oV Sh)) (av := [.ref 102, .int (0 : Int32), .int (3 : Int32)]) (st := []) (z_runV ck_X12_number rfl ml_X12_191 ci_X12_number cv_X12_number (K_102 h0) (ci := 12) rfl rfl (Nat.le_of_ble_eq_true rfl) d_X12_plain_22) (s_X12_number hst h0 (by omega)) kp_V (fun q41 _ => ?_)
    refine r_istore_n (pc := 25) (ls' := [(1, .int q41.1), (0, .ref 102)]) d_X12_plain_25 rfl (Nat.le_of_ble_eq_true rfl) rfl ?_
    refine r_aload_n (pc := 26) 1 d_X12_plain_26 rfl rfl ?_
    refine r_iconst (pc := 27) (1 : Int32) d_X12_plain_27 rfl ?_
    refine r_iload_n (pc := 28) 0 d_X12_plain_28 rfl rfl ?_
    refine r_iconst (pc := 29) (2 : Int32) d_X12_plain_29 rfl ?_
    refine r_icmp_ge (f := (oV Sh)) (pc := 30) 40 d_X12_plain_30 (by decide) (fun c42 => ?_) (fun c42 => ?_)
    · refine r_aload_n (pc := 40) 1 d_X12_plain_40 rfl rfl ?_
      refine q_gI (pc := 41) g_X12_20 (K_102 h0) rfl d_X12_plain_41 ?_
      refine r_pick [1, 0] (ls' := [(0, .ref 102), (1, .int q41.1)]) rfl ?_
      exact s_X12_plain_44 hst h0 hd q41.1 (1 : Int32) (gI q41.2 102 15) q41.2
    · refine r_aload_n (pc := 33) 1 d_X12_plain_33 rfl rfl ?_
      refine q_gI (pc := 34) g_X12_17 (K_102 h0) rfl d_X12_plain_34 ?_
      refine r_goto (pc := 37) 44 d_X12_plain_37 (by decide) ?_
      refine r_pick [1, 0] (ls' := [(0, .ref 102), (1, .int q41.1)]) rfl ?_
      exact s_X12_plain_44 hst h0 hd q41.1 (1 : Int32) (gI q41.2 102 14) q41.2
/-! CoveredSignsModel.asked -/
theorem d_X12_asked_0 : decode (yB m_X12_asked) 0 = .ok (.aload_n 0, 1) := by decide +kernel
theorem d_X12_asked_1 : decode (yB m_X12_asked) 1 = .ok (.getfield 129, 3) := by decide +kernel
theorem d_X12_asked_4 : decode (yB m_X12_asked) 4 = .ok (.ifCond .eq 4, 3) := by decide +kernel
theorem d_X12_asked_7 : decode (yB m_X12_asked) 7 = .ok (.return_, 1) := by decide +kernel
theorem d_X12_asked_8 : decode (yB m_X12_asked) 8 = .ok (.aload_n 0, 1) := by decide +kernel
theorem d_X12_asked_9 : decode (yB m_X12_asked) 9 = .ok (.invokevirtual 135, 3) := by decide +kernel
theorem d_X12_asked_12 : decode (yB m_X12_asked) 12 = .ok (.aload_n 0, 1) := by decide +kernel
theorem d_X12_asked_13 : decode (yB m_X12_asked) 13 = .ok (.bipush 14, 2) := by decide +kernel
theorem d_X12_asked_15 : decode (yB m_X12_asked) 15 = .ok (.bipush 15, 2) := by decide +kernel
theorem d_X12_asked_17 : decode (yB m_X12_asked) 17 = .ok (.bipush 20, 2) := by decide +kernel
theorem d_X12_asked_19 : decode (yB m_X12_asked) 19 = .ok (.iconst 0, 1) := by decide +kernel
theorem d_X12_asked_20 : decode (yB m_X12_asked) 20 = .ok (.iconst 0, 1) := by decide +kernel
theorem d_X12_asked_21 : decode (yB m_X12_asked) 21 = .ok (.iconst 0, 1) := by decide +kernel
theorem d_X12_asked_22 : decode (yB m_X12_asked) 22 = .ok (.invokevirtual 162, 3) := by decide +kernel
theorem d_X12_asked_25 : decode (yB m_X12_asked) 25 = .ok (.ifCond .eq 89, 3) := by decide +kernel
theorem d_X12_asked_28 : decode (yB m_X12_asked) 28 = .ok (.aload_n 0, 1) := by decide +kernel
theorem d_X12_asked_29 : decode (yB m_X12_asked) 29 = .ok (.iconst 3, 1) := by decide +kernel
theorem d_X12_asked_30 : decode (yB m_X12_asked) 30 = .ok (.invokevirtual 266, 3) := by decide +kernel
theorem d_X12_asked_33 : decode (yB m_X12_asked) 33 = .ok (.aload_n 0, 1) := by decide +kernel
theorem d_X12_asked_34 : decode (yB m_X12_asked) 34 = .ok (.invokevirtual 263, 3) := by decide +kernel
theorem d_X12_asked_37 : decode (yB m_X12_asked) 37 = .ok (.aload_n 0, 1) := by decide +kernel
theorem d_X12_asked_38 : decode (yB m_X12_asked) 38 = .ok (.dup, 1) := by decide +kernel
theorem d_X12_asked_39 : decode (yB m_X12_asked) 39 = .ok (.getfield 172, 3) := by decide +kernel
theorem d_X12_asked_42 : decode (yB m_X12_asked) 42 = .ok (.iconst 1, 1) := by decide +kernel
theorem d_X12_asked_43 : decode (yB m_X12_asked) 43 = .ok (.isub, 1) := by decide +kernel
theorem d_X12_asked_44 : decode (yB m_X12_asked) 44 = .ok (.putfield 172, 3) := by decide +kernel
theorem d_X12_asked_47 : decode (yB m_X12_asked) 47 = .ok (.aload_n 0, 1) := by decide +kernel
theorem d_X12_asked_48 : decode (yB m_X12_asked) 48 = .ok (.getfield 129, 3) := by decide +kernel
theorem d_X12_asked_51 : decode (yB m_X12_asked) 51 = .ok (.ifCond .eq 4, 3) := by decide +kernel
theorem d_X12_asked_54 : decode (yB m_X12_asked) 54 = .ok (.return_, 1) := by decide +kernel
theorem d_X12_asked_55 : decode (yB m_X12_asked) 55 = .ok (.iconst 0, 1) := by decide +kernel
theorem d_X12_asked_56 : decode (yB m_X12_asked) 56 = .ok (.istore_n 1, 1) := by decide +kernel
theorem d_X12_asked_57 : decode (yB m_X12_asked) 57 = .ok (.iload_n 1, 1) := by decide +kernel
theorem d_X12_asked_58 : decode (yB m_X12_asked) 58 = .ok (.aload_n 0, 1) := by decide +kernel
theorem d_X12_asked_59 : decode (yB m_X12_asked) 59 = .ok (.getfield 58, 3) := by decide +kernel
theorem d_X12_asked_62 : decode (yB m_X12_asked) 62 = .ok (.aload_n 0, 1) := by decide +kernel
theorem d_X12_asked_63 : decode (yB m_X12_asked) 63 = .ok (.getfield 179, 3) := by decide +kernel
theorem d_X12_asked_66 : decode (yB m_X12_asked) 66 = .ok (.iconst 1, 1) := by decide +kernel
theorem d_X12_asked_67 : decode (yB m_X12_asked) 67 = .ok (.isub, 1) := by decide +kernel
theorem d_X12_asked_68 : decode (yB m_X12_asked) 68 = .ok (.iaload, 1) := by decide +kernel
theorem d_X12_asked_69 : decode (yB m_X12_asked) 69 = .ok (.if_icmp .ge 42, 3) := by decide +kernel
theorem d_X12_asked_72 : decode (yB m_X12_asked) 72 = .ok (.aload_n 0, 1) := by decide +kernel
theorem d_X12_asked_73 : decode (yB m_X12_asked) 73 = .ok (.getfield 55, 3) := by decide +kernel
theorem d_X12_asked_76 : decode (yB m_X12_asked) 76 = .ok (.aload_n 0, 1) := by decide +kernel
theorem d_X12_asked_77 : decode (yB m_X12_asked) 77 = .ok (.getfield 179, 3) := by decide +kernel
theorem d_X12_asked_80 : decode (yB m_X12_asked) 80 = .ok (.iconst 1, 1) := by decide +kernel
theorem d_X12_asked_81 : decode (yB m_X12_asked) 81 = .ok (.isub, 1) := by decide +kernel
theorem d_X12_asked_82 : decode (yB m_X12_asked) 82 = .ok (.aaload, 1) := by decide +kernel
theorem d_X12_asked_83 : decode (yB m_X12_asked) 83 = .ok (.iload_n 1, 1) := by decide +kernel
theorem d_X12_asked_84 : decode (yB m_X12_asked) 84 = .ok (.aload_n 0, 1) := by decide +kernel
theorem d_X12_asked_85 : decode (yB m_X12_asked) 85 = .ok (.invokevirtual 269, 3) := by decide +kernel
theorem d_X12_asked_88 : decode (yB m_X12_asked) 88 = .ok (.aload_n 0, 1) := by decide +kernel
theorem d_X12_asked_89 : decode (yB m_X12_asked) 89 = .ok (.getfield 55, 3) := by decide +kernel
theorem d_X12_asked_92 : decode (yB m_X12_asked) 92 = .ok (.aload_n 0, 1) := by decide +kernel
theorem d_X12_asked_93 : decode (yB m_X12_asked) 93 = .ok (.getfield 179, 3) := by decide +kernel
theorem d_X12_asked_96 : decode (yB m_X12_asked) 96 = .ok (.iconst 1, 1) := by decide +kernel
theorem d_X12_asked_97 : decode (yB m_X12_asked) 97 = .ok (.isub, 1) := by decide +kernel
theorem d_X12_asked_98 : decode (yB m_X12_asked) 98 = .ok (.aaload, 1) := by decide +kernel
theorem d_X12_asked_99 : decode (yB m_X12_asked) 99 = .ok (.iload_n 1, 1) := by decide +kernel
theorem d_X12_asked_100 : decode (yB m_X12_asked) 100 = .ok (.iaload, 1) := by decide +kernel
theorem d_X12_asked_101 : decode (yB m_X12_asked) 101 = .ok (.iconst (-1), 1) := by decide +kernel
theorem d_X12_asked_102 : decode (yB m_X12_asked) 102 = .ok (.ixor, 1) := by decide +kernel
theorem d_X12_asked_103 : decode (yB m_X12_asked) 103 = .ok (.iand, 1) := by decide +kernel
theorem d_X12_asked_104 : decode (yB m_X12_asked) 104 = .ok (.iastore, 1) := by decide +kernel
theorem d_X12_asked_105 : decode (yB m_X12_asked) 105 = .ok (.iinc 1 1, 3) := by decide +kernel
theorem d_X12_asked_108 : decode (yB m_X12_asked) 108 = .ok (.goto (-51), 3) := by decide +kernel
theorem d_X12_asked_111 : decode (yB m_X12_asked) 111 = .ok (.goto 63, 3) := by decide +kernel
theorem d_X12_asked_114 : decode (yB m_X12_asked) 114 = .ok (.aload_n 0, 1) := by decide +kernel
theorem d_X12_asked_115 : decode (yB m_X12_asked) 115 = .ok (.aload_n 0, 1) := by decide +kernel
theorem d_X12_asked_116 : decode (yB m_X12_asked) 116 = .ok (.getfield 122, 3) := by decide +kernel
theorem d_X12_asked_119 : decode (yB m_X12_asked) 119 = .ok (.invokevirtual 125, 3) := by decide +kernel
theorem d_X12_asked_122 : decode (yB m_X12_asked) 122 = .ok (.bipush 91, 2) := by decide +kernel
theorem d_X12_asked_124 : decode (yB m_X12_asked) 124 = .ok (.if_icmp .ne 31, 3) := by decide +kernel
theorem d_X12_asked_127 : decode (yB m_X12_asked) 127 = .ok (.aload_n 0, 1) := by decide +kernel
theorem d_X12_asked_128 : decode (yB m_X12_asked) 128 = .ok (.iconst 1, 1) := by decide +kernel
theorem d_X12_asked_129 : decode (yB m_X12_asked) 129 = .ok (.invokevirtual 266, 3) := by decide +kernel
theorem d_X12_asked_132 : decode (yB m_X12_asked) 132 = .ok (.aload_n 0, 1) := by decide +kernel
theorem d_X12_asked_133 : decode (yB m_X12_asked) 133 = .ok (.invokevirtual 272, 3) := by decide +kernel
theorem d_X12_asked_136 : decode (yB m_X12_asked) 136 = .ok (.aload_n 0, 1) := by decide +kernel
theorem d_X12_asked_137 : decode (yB m_X12_asked) 137 = .ok (.bipush 93, 2) := by decide +kernel
theorem d_X12_asked_139 : decode (yB m_X12_asked) 139 = .ok (.invokevirtual 211, 3) := by decide +kernel
theorem d_X12_asked_142 : decode (yB m_X12_asked) 142 = .ok (.aload_n 0, 1) := by decide +kernel
theorem d_X12_asked_143 : decode (yB m_X12_asked) 143 = .ok (.dup, 1) := by decide +kernel
theorem d_X12_asked_144 : decode (yB m_X12_asked) 144 = .ok (.getfield 172, 3) := by decide +kernel
theorem d_X12_asked_147 : decode (yB m_X12_asked) 147 = .ok (.iconst 1, 1) := by decide +kernel
theorem d_X12_asked_148 : decode (yB m_X12_asked) 148 = .ok (.isub, 1) := by decide +kernel
theorem d_X12_asked_149 : decode (yB m_X12_asked) 149 = .ok (.putfield 172, 3) := by decide +kernel
theorem d_X12_asked_152 : decode (yB m_X12_asked) 152 = .ok (.goto 22, 3) := by decide +kernel
theorem d_X12_asked_155 : decode (yB m_X12_asked) 155 = .ok (.aload_n 0, 1) := by decide +kernel
theorem d_X12_asked_156 : decode (yB m_X12_asked) 156 = .ok (.invokevirtual 254, 3) := by decide +kernel
theorem d_X12_asked_159 : decode (yB m_X12_asked) 159 = .ok (.aload_n 0, 1) := by decide +kernel
theorem d_X12_asked_160 : decode (yB m_X12_asked) 160 = .ok (.invokevirtual 275, 3) := by decide +kernel
theorem d_X12_asked_163 : decode (yB m_X12_asked) 163 = .ok (.aload_n 0, 1) := by decide +kernel
theorem d_X12_asked_164 : decode (yB m_X12_asked) 164 = .ok (.getfield 129, 3) := by decide +kernel
theorem d_X12_asked_167 : decode (yB m_X12_asked) 167 = .ok (.ifCond .ne 7, 3) := by decide +kernel
theorem d_X12_asked_170 : decode (yB m_X12_asked) 170 = .ok (.aload_n 0, 1) := by decide +kernel
theorem d_X12_asked_171 : decode (yB m_X12_asked) 171 = .ok (.invokevirtual 260, 3) := by decide +kernel
theorem d_X12_asked_174 : decode (yB m_X12_asked) 174 = .ok (.return_, 1) := by decide +kernel
def fn_X12_asked_57 (f_X12_asked : zD → Option zD) (f_X12_ors : zD → Option zD) : Nat → Int32 → zD → Option zD
  | 0, _, _ => none
  | n + 1, v1, D => zck ((gI D 102 27) - (1 : Int32)) 30 <| (if (gI D 160 ((gI D 102 27) - (1 : Int32)).toNatClampNeg) ≤ v1 then ((some D)) else (zck ((gI D 102 27) - (1 : Int32)) 30 <| (fn_X12_allCells D).bind fun x22 => zck ((gI D 102 27) - (1 : Int32)) 30 <| zck v1 501 <| zck v1 501 <| zlet (sI D (130 + ((gI D 102 27) - (1 : Int32)).toNatClampNeg) v1.toNatClampNeg (x22 &&& ((gI D (130 + ((gI D 102 27) - (1 : Int32)).toNatClampNeg) v1.toNatClampNeg) ^^^ (-1 : Int32)))) fun D26 => ((fn_X12_asked_57 f_X12_asked f_X12_ors n) (v1 + (1 : Int32)) D26)))
def fn_X12_asked (f_X12_asked : zD → Option zD) (f_X12_ors : zD → Option zD) (D : zD) : Option zD := (if (gI D 102 5) = 0 then ((fn_X12_blanks D).bind fun D2 => (fn_X12_isWord (14 : Int32) (15 : Int32) (20 : Int32) (0 : Int32) (0 : Int32) (0 : Int32) D2).bind fun q3 => (if q3.1 = 0 then ((fn_X12_byteAt (gI q3.2 102 4) q3.2).bind fun x5 => (if x5 = (91 : Int32) then ((fn_X12_opens (1 : Int32) q3.2).bind fun D11 => (f_X12_ors D11).bind fun D12 => (fn_X12_closes (93 : Int32) D12).bind fun D13 => zlet (sI D13 102 8 ((gI D13 102 8) - (1 : Int32))) fun D14 => (some D14)) else ((fn_X12_clearMade q3.2).bind fun D7 => (fn_X12_plain D7).bind fun D8 => (if (gI D8 102 5) = 0 then ((fn_X12_lays D8).bind fun D10 => (some D10)) else ((some D8)))))) else ((fn_X12_opens (3 : Int32) q3.2).bind fun D15 => (f_X12_asked D15).bind fun D16 => zlet (sI D16 102 8 ((gI D16 102 8) - (1 : Int32))) fun D17 => (if (gI D17 102 5) = 0 then ((fn_X12_asked_57 f_X12_asked f_X12_ors zFU (0 : Int32) D17)) else ((some D17)))))) else ((some D)))
theorem s_X12_asked_57 {X : zX} {Sh : zSh} {d : Nat} (hst : (zl X).stackTraces = false) (h0 : zSh0 Sh) (hd : 102 ≤ d) (f_X12_asked : zD → Option zD) (hf_X12_asked : ∀ (D : zD), Sd X m_X12_asked d [.ref 102] (Sh, D) ((oV Sh) (f_X12_asked D))) (f_X12_ors : zD → Option zD) (hf_X12_ors : ∀ (D : zD), Sd X m_X12_ors d [.ref 102] (Sh, D) ((oV Sh) (f_X12_ors D))) : ∀ (n : Nat) (v1 : Int32) (D : zD) , Rn X m_X12_asked (d + 1) 57 [(0, .ref 102), (1, .int v1)] [] (Sh, D) ((oV Sh) (fn_X12_asked_57 f_X12_asked f_X12_ors n v1 D)) := by
  intro n
  induction n with
  | zero => intro v1 D; exact Rn_none rfl
  | succ n hk57 =>
    intro v1 D
    rw [fn_X12_asked_57]
    refine r_iload_n (pc := 57) 1 d_X12_asked_57 rfl rfl ?_
    refine r_aload_n (pc := 58) 0 d_X12_asked_58 rfl rfl ?_
    refine r_getR (pc := 59) g_X12_58 (K_102 h0) rfl (R_102_30 h0) d_X12_asked_59 ?_
    refine r_aload_n (pc := 62) 0 d_X12_asked_62 rfl rfl ?_
    refine q_gI (pc := 63) g_X12_179 (K_102 h0) rfl d_X12_asked_63 ?_
    refine r_iconst (pc := 66) (1 : Int32) d_X12_asked_66 rfl ?_
    refine r_isub (pc := 67) d_X12_asked_67 ?_
    refine r_ck (f := (oV Sh)) rfl (fun hc19 => ?_)
    refine q_iald (pc := 68) (j := ((gI D 102 27) - (1 : Int32)).toNatClampNeg) (K_160 h0) hc19 rfl d_X12_asked_68 ?_
    refine r_icmp_ge (f := (oV Sh)) (pc := 69) 111 d_X12_asked_69 (by decide) (fun c20 => ?_) (fun c20 => ?_)
    · refine r_goto (pc := 111) 174 d_X12_asked_111 (by decide) ?_
      exact r_vret (pc := 174) rfl d_X12_asked_174
    · refine r_aload_n (pc := 72) 0 d_X12_asked_72 rfl rfl ?_
      refine r_getR (pc := 73) g_X12_55 (K_102 h0) rfl (R_102_29 h0) d_X12_asked_73 ?_
      refine r_aload_n (pc := 76) 0 d_X12_asked_76 rfl rfl ?_
      refine q_gI (pc := 77) g_X12_179 (K_102 h0) rfl d_X12_asked_77 ?_
      refine r_iconst (pc := 80) (1 : Int32) d_X12_asked_80 rfl ?_
      refine r_isub (pc := 81) d_X12_asked_81 ?_
      refine r_ck (f := (oV Sh)) rfl (fun hc21 => ?_)
      refine q_aald (pc := 82) (j := ((gI D 102 27) - (1 : Int32)).toNatClampNeg) (K_129 h0) (Or.inl ⟨rfl, rfl⟩) hc21 rfl (RW_129 h0 _ (z_lt hc21)) d_X12_asked_82 ?_
      refine r_iload_n (pc := 83) 1 d_X12_asked_83 rfl rfl ?_
      refine r_aload_n (pc := 84) 0 d_X12_asked_84 rfl rfl ?_
      refine q_cP (f := (oV Sh)) (av := [.ref 102]) (st := [.int v1, .ref (130 + ((gI D 102 27) - (1 : Int32)).toNatClampNeg)]) (z_runV ck_X12_allCells rfl ml_X12_269 ci_X12_allCells cv_X12_allCells (K_102 h0) (ci := 12) rfl rfl (Nat.le_of_ble_eq_true rfl) d_X12_asked_85) (s_X12_allCells hst h0 (by omega)) kp_V (fun x22 _ => ?_)
      refine r_aload_n (pc := 88) 0 d_X12_asked_88 rfl rfl ?_
      refine r_getR (pc := 89) g_X12_55 (K_102 h0) rfl (R_102_29 h0) d_X12_asked_89 ?_
      refine r_aload_n (pc := 92) 0 d_X12_asked_92 rfl rfl ?_
      refine q_gI (pc := 93) g_X12_179 (K_102 h0) rfl d_X12_asked_93 ?_
      refine r_iconst (pc := 96) (1 : Int32) d_X12_asked_96 rfl ?_
      refine r_isub (pc := 97) d_X12_asked_97 ?_
      refine r_ck (f := (oV Sh)) rfl (fun hc23 => ?_)
      refine q_aald (pc := 98) (j := ((gI D 102 27) - (1 : Int32)).toNatClampNeg) (K_129 h0) (Or.inl ⟨rfl, rfl⟩) hc23 rfl (RW_129 h0 _ (z_lt hc23)) d_X12_asked_98 ?_
      refine r_iload_n (pc := 99) 1 d_X12_asked_99 rfl rfl ?_
      refine r_ck (f := (oV Sh)) rfl (fun hc24 => ?_)
      refine q_iald (pc := 100) (j := v1.toNatClampNeg) (RK_129 h0 _ (z_lt hc23)) hc24 rfl d_X12_asked_100 ?_
      refine r_iconst (pc := 101) (-1 : Int32) d_X12_asked_101 rfl ?_
      refine r_ixor (pc := 102) d_X12_asked_102 ?_
      refine r_iand (pc := 103) d_X12_asked_103 ?_
      refine r_ck (f := (oV Sh)) rfl (fun hc25 => ?_)
      refine q_iast (pc := 104) (j := v1.toNatClampNeg) (RK_129 h0 _ (z_lt hc21)) hc25 rfl  d_X12_asked_104 ?_
      refine r_letD (f := (oV Sh)) (fun D26 => ?_)
      refine r_iinc (pc := 105) ((v1 + (1 : Int32))) 1 (ls' := [(1, .int (v1 + (1 : Int32))), (0, .ref 102)]) d_X12_asked_105 rfl rfl (Nat.le_of_ble_eq_true rfl) rfl ?_
      refine r_goto (pc := 108) 57 d_X12_asked_108 (by decide) ?_
      refine r_pick [1, 0] (ls' := [(0, .ref 102), (1, .int (v1 + (1 : Int32)))]) rfl ?_
      exact hk57 (v1 + (1 : Int32)) D26 
theorem b_X12_asked {X : zX} {Sh : zSh} {d : Nat} (hst : (zl X).stackTraces = false) (h0 : zSh0 Sh) (hd : 102 ≤ d) (f_X12_asked : zD → Option zD) (hf_X12_asked : ∀ (D : zD), Sd X m_X12_asked d [.ref 102] (Sh, D) ((oV Sh) (f_X12_asked D))) (f_X12_ors : zD → Option zD) (hf_X12_ors : ∀ (D : zD), Sd X m_X12_ors d [.ref 102] (Sh, D) ((oV Sh) (f_X12_ors D))) {D : zD} : Sd X m_X12_asked (d + 1) [.ref 102] (Sh, D) ((oV Sh) (fn_X12_asked f_X12_asked f_X12_ors D)) := by
  refine z_body ck_X12_asked rfl (Nat.le_of_ble_eq_true rfl) rfl hst ?_
  rw [fn_X12_asked]
  show Rn X m_X12_asked (d + 1) 0 [(0, .ref 102)] [] (Sh, D) _
  refine r_aload_n (pc := 0) 0 d_X12_asked_0 rfl rfl ?_
  refine q_gI (pc := 1) g_X12_129 (K_102 h0) rfl d_X12_asked_1 ?_
  refine r_if_eq (f := (oV Sh)) (pc := 4) 8 d_X12_asked_4 (by decide) (fun c1 => ?_) (fun c1 => ?_)
  · refine r_aload_n (pc := 8) 0 d_X12_asked_8 rfl rfl ?_
    refine q_cV (f := (oV Sh)) (av := [.ref 102]) (st := []) (z_runV ck_X12_blanks rfl ml_X12_135 ci_X12_blanks cv_X12_blanks (K_102 h0) (ci := 12) rfl rfl (Nat.le_of_ble_eq_true rfl) d_X12_asked_9) (s_X12_blanks hst h0 (by omega)) kp_V (fun D2 _ => ?_)
    refine r_aload_n (pc := 12) 0 d_X12_asked_12 rfl rfl ?_
    refine r_bipush (pc := 13) (14 : Int32) d_X12_asked_13 rfl ?_
    refine r_bipush (pc := 15) (15 : Int32) d_X12_asked_15 rfl ?_
    refine r_bipush (pc := 17) (20 : Int32) d_X12_asked_17 rfl ?_
    refine r_iconst (pc := 19) (0 : Int32) d_X12_asked_19 rfl ?_
    refine r_iconst (pc := 20) (0 : Int32) d_X12_asked_20 rfl ?_
    refine r_iconst (pc := 21) (0 : Int32) d_X12_asked_21 rfl ?_
    refine q_cI (f := (oV Sh)) (av := [.ref 102, .int (14 : Int32), .int (15 : Int32), .int (20 : Int32), .int (0 : Int32), .int (0 : Int32), .int (0 : Int32)]) (st := []) (z_runV ck_X12_isWord rfl ml_X12_162 ci_X12_isWord cv_X12_isWord (K_102 h0) (ci := 12) rfl rfl (Nat.le_of_ble_eq_true rfl) d_X12_asked_22) (s_X12_isWord hst h0 (by omega)) kp_V (fun q3 _ => ?_)
    refine r_if_eq (f := (oV Sh)) (pc := 25) 114 d_X12_asked_25 (by decide) (fun c4 => ?_) (fun c4 => ?_)
    · refine r_aload_n (pc := 114) 0 d_X12_asked_114 rfl rfl ?_
      refine r_aload_n (pc := 115) 0 d_X12_asked_115 rfl rfl ?_
      refine q_gI (pc := 116) g_X12_122 (K_102 h0) rfl d_X12_asked_116 ?_
      refine q_cP (f := (oV Sh)) (av := [.ref 102, .int (gI q3.2 102 4)]) (st := []) (z_runV ck_X12_byteAt rfl ml_X12_125 ci_X12_byteAt cv_X12_byteAt (K_102 h0) (ci := 12) rfl rfl (Nat.le_of_ble_eq_true rfl) d_X12_asked_119) (s_X12_byteAt hst h0 (by omega)) kp_V (fun x5 _ => ?_)
      refine r_bipush (pc := 122) (91 : Int32) d_X12_asked_122 rfl ?_
      refine r_icmp_ne (f := (oV Sh)) (pc := 124) 155 d_X12_asked_124 (by decide) (fun c6 => ?_) (fun c6 => ?_)
      · refine r_aload_n (pc := 155) 0 d_X12_asked_155 rfl rfl ?_
        refine q_cV (f := (oV Sh)) (av := [.ref 102]) (st := []) (z_runV ck_X12_clearMade rfl ml_X12_254 ci_X12_clearMade cv_X12_clearMade (K_102 h0) (ci := 12) rfl rfl (Nat.le_of_ble_eq_true rfl) d_X12_asked_156) (s_X12_clearMade hst h0 (by omega)) kp_V (fun D7 _ => ?_)
        refine r_aload_n (pc := 159) 0 d_X12_asked_159 rfl rfl ?_
        refine q_cV (f := (oV Sh)) (av := [.ref 102]) (st := []) (z_runV ck_X12_plain rfl ml_X12_275 ci_X12_plain cv_X12_plain (K_102 h0) (ci := 12) rfl rfl (Nat.le_of_ble_eq_true rfl) d_X12_asked_160) (s_X12_plain hst h0 (by omega)) kp_V (fun D8 _ => ?_)
        refine r_aload_n (pc := 163) 0 d_X12_asked_163 rfl rfl ?_
        refine q_gI (pc := 164) g_X12_129 (K_102 h0) rfl d_X12_asked_164 ?_
        refine r_if_ne (f := (oV Sh)) (pc := 167) 174 d_X12_asked_167 (by decide) (fun c9 => ?_) (fun c9 => ?_)
        · exact r_vret (pc := 174) rfl d_X12_asked_174
        · refine r_aload_n (pc := 170) 0 d_X12_asked_170 rfl rfl ?_
          refine q_cV (f := (oV Sh)) (av := [.ref 102]) (st := []) (z_runV ck_X12_lays rfl ml_X12_260 ci_X12_lays cv_X12_lays (K_102 h0) (ci := 12) rfl rfl (Nat.le_of_ble_eq_true rfl) d_X12_asked_171) (s_X12_lays hst h0 (by omega)) kp_V (fun D10 _ => ?_)
          exact r_vret (pc := 174) rfl d_X12_asked_174
      · refine r_aload_n (pc := 127) 0 d_X12_asked_127 rfl rfl ?_
        refine r_iconst (pc := 128) (1 : Int32) d_X12_asked_128 rfl ?_
        refine q_cV (f := (oV Sh)) (av := [.ref 102, .int (1 : Int32)]) (st := []) (z_runV ck_X12_opens rfl ml_X12_266 ci_X12_opens cv_X12_opens (K_102 h0) (ci := 12) rfl rfl (Nat.le_of_ble_eq_true rfl) d_X12_asked_129) (s_X12_opens hst h0 (by omega)) kp_V (fun D11 _ => ?_)
        refine r_aload_n (pc := 132) 0 d_X12_asked_132 rfl rfl ?_
        refine q_cV (f := (oV Sh)) (av := [.ref 102]) (st := []) (z_runV ck_X12_ors rfl ml_X12_272 ci_X12_ors cv_X12_ors (K_102 h0) (ci := 12) rfl rfl (Nat.le_of_ble_eq_true rfl) d_X12_asked_133) (hf_X12_ors D11) kp_V (fun D12 _ => ?_)
        refine r_aload_n (pc := 136) 0 d_X12_asked_136 rfl rfl ?_
        refine r_bipush (pc := 137) (93 : Int32) d_X12_asked_137 rfl ?_
        refine q_cV (f := (oV Sh)) (av := [.ref 102, .int (93 : Int32)]) (st := []) (z_runV ck_X12_closes rfl ml_X12_211 ci_X12_closes cv_X12_closes (K_102 h0) (ci := 12) rfl rfl (Nat.le_of_ble_eq_true rfl) d_X12_asked_139) (s_X12_closes hst h0 (by omega)) kp_V (fun D13 _ => ?_)
        refine r_aload_n (pc := 142) 0 d_X12_asked_142 rfl rfl ?_
        refine r_dup (pc := 143) d_X12_asked_143 rfl ?_
        refine q_gI (pc := 144) g_X12_172 (K_102 h0) rfl d_X12_asked_144 ?_
        refine r_iconst (pc := 147) (1 : Int32) d_X12_asked_147 rfl ?_
        refine r_isub (pc := 148) d_X12_asked_148 ?_
        refine r_putI (pc := 149) p_X12_172 (K_102 h0) rfl (Or.inl rfl) d_X12_asked_149 ?_
        refine r_letD (f := (oV Sh)) (fun D14 => ?_)
        refine r_goto (pc := 152) 174 d_X12_asked_152 (by decide) ?_
        exact r_vret (pc := 174) rfl d_X12_asked_174
    · refine r_aload_n (pc := 28) 0 d_X12_asked_28 rfl rfl ?_
      refine r_iconst (pc := 29) (3 : Int32) d_X12_asked_29 rfl ?_
      refine q_cV (f := (oV Sh)) (av := [.ref 102, .int (3 : Int32)]) (st := []) (z_runV ck_X12_opens rfl ml_X12_266 ci_X12_opens cv_X12_opens (K_102 h0) (ci := 12) rfl rfl (Nat.le_of_ble_eq_true rfl) d_X12_asked_30) (s_X12_opens hst h0 (by omega)) kp_V (fun D15 _ => ?_)
      refine r_aload_n (pc := 33) 0 d_X12_asked_33 rfl rfl ?_
      refine q_cV (f := (oV Sh)) (av := [.ref 102]) (st := []) (z_runV ck_X12_asked rfl ml_X12_263 ci_X12_asked cv_X12_asked (K_102 h0) (ci := 12) rfl rfl (Nat.le_of_ble_eq_true rfl) d_X12_asked_34) (hf_X12_asked D15) kp_V (fun D16 _ => ?_)
      refine r_aload_n (pc := 37) 0 d_X12_asked_37 rfl rfl ?_
      refine r_dup (pc := 38) d_X12_asked_38 rfl ?_
      refine q_gI (pc := 39) g_X12_172 (K_102 h0) rfl d_X12_asked_39 ?_
      refine r_iconst (pc := 42) (1 : Int32) d_X12_asked_42 rfl ?_
      refine r_isub (pc := 43) d_X12_asked_43 ?_
      refine r_putI (pc := 44) p_X12_172 (K_102 h0) rfl (Or.inl rfl) d_X12_asked_44 ?_
      refine r_letD (f := (oV Sh)) (fun D17 => ?_)
      refine r_aload_n (pc := 47) 0 d_X12_asked_47 rfl rfl ?_
      refine q_gI (pc := 48) g_X12_129 (K_102 h0) rfl d_X12_asked_48 ?_
      refine r_if_eq (f := (oV Sh)) (pc := 51) 55 d_X12_asked_51 (by decide) (fun c18 => ?_) (fun c18 => ?_)
      · refine r_iconst (pc := 55) (0 : Int32) d_X12_asked_55 rfl ?_
        refine r_istore_n (pc := 56) (ls' := [(1, .int (0 : Int32)), (0, .ref 102)]) d_X12_asked_56 rfl (Nat.le_of_ble_eq_true rfl) rfl ?_
        refine r_pick [1, 0] (ls' := [(0, .ref 102), (1, .int (0 : Int32))]) rfl ?_
        exact s_X12_asked_57 hst h0 hd f_X12_asked hf_X12_asked f_X12_ors hf_X12_ors zFU  (0 : Int32) D17
      · exact r_vret (pc := 54) rfl d_X12_asked_54
  · exact r_vret (pc := 7) rfl d_X12_asked_7
/-! CoveredSignsModel.ands -/
theorem d_X12_ands_0 : decode (yB m_X12_ands) 0 = .ok (.aload_n 0, 1) := by decide +kernel
theorem d_X12_ands_1 : decode (yB m_X12_ands) 1 = .ok (.invokevirtual 263, 3) := by decide +kernel
theorem d_X12_ands_4 : decode (yB m_X12_ands) 4 = .ok (.aload_n 0, 1) := by decide +kernel
theorem d_X12_ands_5 : decode (yB m_X12_ands) 5 = .ok (.iconst 1, 1) := by decide +kernel
theorem d_X12_ands_6 : decode (yB m_X12_ands) 6 = .ok (.bipush 14, 2) := by decide +kernel
theorem d_X12_ands_8 : decode (yB m_X12_ands) 8 = .ok (.iconst 4, 1) := by decide +kernel
theorem d_X12_ands_9 : decode (yB m_X12_ands) 9 = .ok (.invokevirtual 251, 3) := by decide +kernel
theorem d_X12_ands_12 : decode (yB m_X12_ands) 12 = .ok (.ifCond .eq 113, 3) := by decide +kernel
theorem d_X12_ands_15 : decode (yB m_X12_ands) 15 = .ok (.aload_n 0, 1) := by decide +kernel
theorem d_X12_ands_16 : decode (yB m_X12_ands) 16 = .ok (.invokevirtual 263, 3) := by decide +kernel
theorem d_X12_ands_19 : decode (yB m_X12_ands) 19 = .ok (.aload_n 0, 1) := by decide +kernel
theorem d_X12_ands_20 : decode (yB m_X12_ands) 20 = .ok (.getfield 129, 3) := by decide +kernel
theorem d_X12_ands_23 : decode (yB m_X12_ands) 23 = .ok (.ifCond .eq 4, 3) := by decide +kernel
theorem d_X12_ands_26 : decode (yB m_X12_ands) 26 = .ok (.return_, 1) := by decide +kernel
theorem d_X12_ands_27 : decode (yB m_X12_ands) 27 = .ok (.aload_n 0, 1) := by decide +kernel
theorem d_X12_ands_28 : decode (yB m_X12_ands) 28 = .ok (.invokevirtual 254, 3) := by decide +kernel
theorem d_X12_ands_31 : decode (yB m_X12_ands) 31 = .ok (.iconst 0, 1) := by decide +kernel
theorem d_X12_ands_32 : decode (yB m_X12_ands) 32 = .ok (.istore_n 1, 1) := by decide +kernel
theorem d_X12_ands_33 : decode (yB m_X12_ands) 33 = .ok (.iload_n 1, 1) := by decide +kernel
theorem d_X12_ands_34 : decode (yB m_X12_ands) 34 = .ok (.aload_n 0, 1) := by decide +kernel
theorem d_X12_ands_35 : decode (yB m_X12_ands) 35 = .ok (.getfield 58, 3) := by decide +kernel
theorem d_X12_ands_38 : decode (yB m_X12_ands) 38 = .ok (.aload_n 0, 1) := by decide +kernel
theorem d_X12_ands_39 : decode (yB m_X12_ands) 39 = .ok (.getfield 179, 3) := by decide +kernel
theorem d_X12_ands_42 : decode (yB m_X12_ands) 42 = .ok (.iconst 2, 1) := by decide +kernel
theorem d_X12_ands_43 : decode (yB m_X12_ands) 43 = .ok (.isub, 1) := by decide +kernel
theorem d_X12_ands_44 : decode (yB m_X12_ands) 44 = .ok (.iaload, 1) := by decide +kernel
theorem d_X12_ands_45 : decode (yB m_X12_ands) 45 = .ok (.if_icmp .ge 63, 3) := by decide +kernel
theorem d_X12_ands_48 : decode (yB m_X12_ands) 48 = .ok (.iconst 0, 1) := by decide +kernel
theorem d_X12_ands_49 : decode (yB m_X12_ands) 49 = .ok (.istore_n 2, 1) := by decide +kernel
theorem d_X12_ands_50 : decode (yB m_X12_ands) 50 = .ok (.iload_n 2, 1) := by decide +kernel
theorem d_X12_ands_51 : decode (yB m_X12_ands) 51 = .ok (.aload_n 0, 1) := by decide +kernel
theorem d_X12_ands_52 : decode (yB m_X12_ands) 52 = .ok (.getfield 58, 3) := by decide +kernel
theorem d_X12_ands_55 : decode (yB m_X12_ands) 55 = .ok (.aload_n 0, 1) := by decide +kernel
theorem d_X12_ands_56 : decode (yB m_X12_ands) 56 = .ok (.getfield 179, 3) := by decide +kernel
theorem d_X12_ands_59 : decode (yB m_X12_ands) 59 = .ok (.iconst 1, 1) := by decide +kernel
theorem d_X12_ands_60 : decode (yB m_X12_ands) 60 = .ok (.isub, 1) := by decide +kernel
theorem d_X12_ands_61 : decode (yB m_X12_ands) 61 = .ok (.iaload, 1) := by decide +kernel
theorem d_X12_ands_62 : decode (yB m_X12_ands) 62 = .ok (.if_icmp .ge 40, 3) := by decide +kernel
theorem d_X12_ands_65 : decode (yB m_X12_ands) 65 = .ok (.aload_n 0, 1) := by decide +kernel
theorem d_X12_ands_66 : decode (yB m_X12_ands) 66 = .ok (.aload_n 0, 1) := by decide +kernel
theorem d_X12_ands_67 : decode (yB m_X12_ands) 67 = .ok (.getfield 55, 3) := by decide +kernel
theorem d_X12_ands_70 : decode (yB m_X12_ands) 70 = .ok (.aload_n 0, 1) := by decide +kernel
theorem d_X12_ands_71 : decode (yB m_X12_ands) 71 = .ok (.getfield 179, 3) := by decide +kernel
theorem d_X12_ands_74 : decode (yB m_X12_ands) 74 = .ok (.iconst 2, 1) := by decide +kernel
theorem d_X12_ands_75 : decode (yB m_X12_ands) 75 = .ok (.isub, 1) := by decide +kernel
theorem d_X12_ands_76 : decode (yB m_X12_ands) 76 = .ok (.aaload, 1) := by decide +kernel
theorem d_X12_ands_77 : decode (yB m_X12_ands) 77 = .ok (.iload_n 1, 1) := by decide +kernel
theorem d_X12_ands_78 : decode (yB m_X12_ands) 78 = .ok (.iaload, 1) := by decide +kernel
theorem d_X12_ands_79 : decode (yB m_X12_ands) 79 = .ok (.aload_n 0, 1) := by decide +kernel
theorem d_X12_ands_80 : decode (yB m_X12_ands) 80 = .ok (.getfield 55, 3) := by decide +kernel
theorem d_X12_ands_83 : decode (yB m_X12_ands) 83 = .ok (.aload_n 0, 1) := by decide +kernel
theorem d_X12_ands_84 : decode (yB m_X12_ands) 84 = .ok (.getfield 179, 3) := by decide +kernel
theorem d_X12_ands_87 : decode (yB m_X12_ands) 87 = .ok (.iconst 1, 1) := by decide +kernel
theorem d_X12_ands_88 : decode (yB m_X12_ands) 88 = .ok (.isub, 1) := by decide +kernel
theorem d_X12_ands_89 : decode (yB m_X12_ands) 89 = .ok (.aaload, 1) := by decide +kernel
theorem d_X12_ands_90 : decode (yB m_X12_ands) 90 = .ok (.iload_n 2, 1) := by decide +kernel
theorem d_X12_ands_91 : decode (yB m_X12_ands) 91 = .ok (.iaload, 1) := by decide +kernel
theorem d_X12_ands_92 : decode (yB m_X12_ands) 92 = .ok (.ior, 1) := by decide +kernel
theorem d_X12_ands_93 : decode (yB m_X12_ands) 93 = .ok (.invokevirtual 257, 3) := by decide +kernel
theorem d_X12_ands_96 : decode (yB m_X12_ands) 96 = .ok (.iinc 2 1, 3) := by decide +kernel
theorem d_X12_ands_99 : decode (yB m_X12_ands) 99 = .ok (.goto (-49), 3) := by decide +kernel
theorem d_X12_ands_102 : decode (yB m_X12_ands) 102 = .ok (.iinc 1 1, 3) := by decide +kernel
theorem d_X12_ands_105 : decode (yB m_X12_ands) 105 = .ok (.goto (-72), 3) := by decide +kernel
theorem d_X12_ands_108 : decode (yB m_X12_ands) 108 = .ok (.aload_n 0, 1) := by decide +kernel
theorem d_X12_ands_109 : decode (yB m_X12_ands) 109 = .ok (.dup, 1) := by decide +kernel
theorem d_X12_ands_110 : decode (yB m_X12_ands) 110 = .ok (.getfield 179, 3) := by decide +kernel
theorem d_X12_ands_113 : decode (yB m_X12_ands) 113 = .ok (.iconst 2, 1) := by decide +kernel
theorem d_X12_ands_114 : decode (yB m_X12_ands) 114 = .ok (.isub, 1) := by decide +kernel
theorem d_X12_ands_115 : decode (yB m_X12_ands) 115 = .ok (.putfield 179, 3) := by decide +kernel
theorem d_X12_ands_118 : decode (yB m_X12_ands) 118 = .ok (.aload_n 0, 1) := by decide +kernel
theorem d_X12_ands_119 : decode (yB m_X12_ands) 119 = .ok (.invokevirtual 260, 3) := by decide +kernel
theorem d_X12_ands_122 : decode (yB m_X12_ands) 122 = .ok (.goto (-118), 3) := by decide +kernel
theorem d_X12_ands_125 : decode (yB m_X12_ands) 125 = .ok (.return_, 1) := by decide +kernel
def fn_X12_ands_108 (f_X12_asked : zD → Option zD) (k4 : zD → Option zD) (D : zD) : Option zD := zlet (sI D 102 27 ((gI D 102 27) - (2 : Int32))) fun D9 => (fn_X12_lays D9).bind fun D10 => (k4 D10)
def fn_X12_ands_50 (f_X12_asked : zD → Option zD) (k33 : Int32 → zD → Option zD) : Nat → Int32 → Int32 → zD → Option zD
  | 0, _, _, _ => none
  | n + 1, v1, v2, D => zck ((gI D 102 27) - (1 : Int32)) 30 <| (if (gI D 160 ((gI D 102 27) - (1 : Int32)).toNatClampNeg) ≤ v2 then ((k33 (v1 + (1 : Int32)) D)) else (zck ((gI D 102 27) - (2 : Int32)) 30 <| zck v1 501 <| zck ((gI D 102 27) - (1 : Int32)) 30 <| zck v2 501 <| (fn_X12_makes ((gI D (130 + ((gI D 102 27) - (2 : Int32)).toNatClampNeg) v1.toNatClampNeg) ||| (gI D (130 + ((gI D 102 27) - (1 : Int32)).toNatClampNeg) v2.toNatClampNeg)) D).bind fun D17 => ((fn_X12_ands_50 f_X12_asked k33 n) v1 (v2 + (1 : Int32)) D17)))
def fn_X12_ands_33 (f_X12_asked : zD → Option zD) (k4 : zD → Option zD) : Nat → Int32 → zD → Option zD
  | 0, _, _ => none
  | n + 1, v1, D => zck ((gI D 102 27) - (2 : Int32)) 30 <| (if (gI D 160 ((gI D 102 27) - (2 : Int32)).toNatClampNeg) ≤ v1 then ((fn_X12_ands_108 f_X12_asked k4 D)) else ((fn_X12_ands_50 f_X12_asked (fn_X12_ands_33 f_X12_asked k4 n) zFU v1 (0 : Int32) D)))
def fn_X12_ands_4 (f_X12_asked : zD → Option zD) : Nat → zD → Option zD
  | 0, _ => none
  | n + 1, D => (fn_X12_eats (1 : Int32) (14 : Int32) (4 : Int32) D).bind fun q2 => (if q2.1 = 0 then ((some q2.2)) else ((f_X12_asked q2.2).bind fun D4 => (if (gI D4 102 5) = 0 then ((fn_X12_clearMade D4).bind fun D6 => (fn_X12_ands_33 f_X12_asked (fn_X12_ands_4 f_X12_asked n) zFU (0 : Int32) D6)) else ((some D4)))))
def fn_X12_ands (f_X12_asked : zD → Option zD) (D : zD) : Option zD := (f_X12_asked D).bind fun D1 => (fn_X12_ands_4 f_X12_asked zFU D1)
theorem s_X12_ands_108 {X : zX} {Sh : zSh} {d : Nat} (hst : (zl X).stackTraces = false) (h0 : zSh0 Sh) (hd : 5 ≤ d) (f_X12_asked : zD → Option zD) (hf_X12_asked : ∀ (D : zD), Sd X m_X12_asked d [.ref 102] (Sh, D) ((oV Sh) (f_X12_asked D))) (k4 : zD → Option zD) (hk4 : ∀  (D : zD) , Rn X m_X12_ands (d + 1) 4 [(0, .ref 102)] [] (Sh, D) ((oV Sh) (k4 D)))  (D : zD)  : Rn X m_X12_ands (d + 1) 108 [(0, .ref 102)] [] (Sh, D) ((oV Sh) (fn_X12_ands_108 f_X12_asked k4 D)) := by
  rw [fn_X12_ands_108]
  refine r_aload_n (pc := 108) 0 d_X12_ands_108 rfl rfl ?_
  refine r_dup (pc := 109) d_X12_ands_109 rfl ?_
  refine q_gI (pc := 110) g_X12_179 (K_102 h0) rfl d_X12_ands_110 ?_
  refine r_iconst (pc := 113) (2 : Int32) d_X12_ands_113 rfl ?_
  refine r_isub (pc := 114) d_X12_ands_114 ?_
  refine r_putI (pc := 115) p_X12_179 (K_102 h0) rfl (Or.inl rfl) d_X12_ands_115 ?_
  refine r_letD (f := (oV Sh)) (fun D9 => ?_)
  refine r_aload_n (pc := 118) 0 d_X12_ands_118 rfl rfl ?_
  refine q_cV (f := (oV Sh)) (av := [.ref 102]) (st := []) (z_runV ck_X12_lays rfl ml_X12_260 ci_X12_lays cv_X12_lays (K_102 h0) (ci := 12) rfl rfl (Nat.le_of_ble_eq_true rfl) d_X12_ands_119) (s_X12_lays hst h0 (by omega)) kp_V (fun D10 _ => ?_)
  refine r_goto (pc := 122) 4 d_X12_ands_122 (by decide) ?_
  refine r_pick [0] (ls' := [(0, .ref 102)]) rfl ?_
  exact hk4 D10 
theorem s_X12_ands_50 {X : zX} {Sh : zSh} {d : Nat} (hst : (zl X).stackTraces = false) (h0 : zSh0 Sh) (hd : 5 ≤ d) (f_X12_asked : zD → Option zD) (hf_X12_asked : ∀ (D : zD), Sd X m_X12_asked d [.ref 102] (Sh, D) ((oV Sh) (f_X12_asked D))) (k33 : Int32 → zD → Option zD) (hk33 : ∀ (v1 : Int32) (D : zD) , Rn X m_X12_ands (d + 1) 33 [(0, .ref 102), (1, .int v1)] [] (Sh, D) ((oV Sh) (k33 v1 D))) : ∀ (n : Nat) (v1 : Int32) (v2 : Int32) (D : zD) , Rn X m_X12_ands (d + 1) 50 [(0, .ref 102), (1, .int v1), (2, .int v2)] [] (Sh, D) ((oV Sh) (fn_X12_ands_50 f_X12_asked k33 n v1 v2 D)) := by
  intro n
  induction n with
  | zero => intro v1 v2 D; exact Rn_none rfl
  | succ n hk50 =>
    intro v1 v2 D
    rw [fn_X12_ands_50]
    refine r_iload_n (pc := 50) 2 d_X12_ands_50 rfl rfl ?_
    refine r_aload_n (pc := 51) 0 d_X12_ands_51 rfl rfl ?_
    refine r_getR (pc := 52) g_X12_58 (K_102 h0) rfl (R_102_30 h0) d_X12_ands_52 ?_
    refine r_aload_n (pc := 55) 0 d_X12_ands_55 rfl rfl ?_
    refine q_gI (pc := 56) g_X12_179 (K_102 h0) rfl d_X12_ands_56 ?_
    refine r_iconst (pc := 59) (1 : Int32) d_X12_ands_59 rfl ?_
    refine r_isub (pc := 60) d_X12_ands_60 ?_
    refine r_ck (f := (oV Sh)) rfl (fun hc11 => ?_)
    refine q_iald (pc := 61) (j := ((gI D 102 27) - (1 : Int32)).toNatClampNeg) (K_160 h0) hc11 rfl d_X12_ands_61 ?_
    refine r_icmp_ge (f := (oV Sh)) (pc := 62) 102 d_X12_ands_62 (by decide) (fun c12 => ?_) (fun c12 => ?_)
    · refine r_iinc (pc := 102) ((v1 + (1 : Int32))) 1 (ls' := [(1, .int (v1 + (1 : Int32))), (0, .ref 102), (2, .int v2)]) d_X12_ands_102 rfl rfl (Nat.le_of_ble_eq_true rfl) rfl ?_
      refine r_goto (pc := 105) 33 d_X12_ands_105 (by decide) ?_
      refine r_pick [1, 0] (ls' := [(0, .ref 102), (1, .int (v1 + (1 : Int32)))]) rfl ?_
      exact hk33 (v1 + (1 : Int32)) D 
    · refine r_aload_n (pc := 65) 0 d_X12_ands_65 rfl rfl ?_
      refine r_aload_n (pc := 66) 0 d_X12_ands_66 rfl rfl ?_
      refine r_getR (pc := 67) g_X12_55 (K_102 h0) rfl (R_102_29 h0) d_X12_ands_67 ?_
      refine r_aload_n (pc := 70) 0 d_X12_ands_70 rfl rfl ?_
      refine q_gI (pc := 71) g_X12_179 (K_102 h0) rfl d_X12_ands_71 ?_
      refine r_iconst (pc := 74) (2 : Int32) d_X12_ands_74 rfl ?_
      refine r_isub (pc := 75) d_X12_ands_75 ?_
      refine r_ck (f := (oV Sh)) rfl (fun hc13 => ?_)
      refine q_aald (pc := 76) (j := ((gI D 102 27) - (2 : Int32)).toNatClampNeg) (K_129 h0) (Or.inl ⟨rfl, rfl⟩) hc13 rfl (RW_129 h0 _ (z_lt hc13)) d_X12_ands_76 ?_
      refine r_iload_n (pc := 77) 1 d_X12_ands_77 rfl rfl ?_
      refine r_ck (f := (oV Sh)) rfl (fun hc14 => ?_)
      refine q_iald (pc := 78) (j := v1.toNatClampNeg) (RK_129 h0 _ (z_lt hc13)) hc14 rfl d_X12_ands_78 ?_
      refine r_aload_n (pc := 79) 0 d_X12_ands_79 rfl rfl ?_
      refine r_getR (pc := 80) g_X12_55 (K_102 h0) rfl (R_102_29 h0) d_X12_ands_80 ?_
      refine r_aload_n (pc := 83) 0 d_X12_ands_83 rfl rfl ?_
      refine q_gI (pc := 84) g_X12_179 (K_102 h0) rfl d_X12_ands_84 ?_
      refine r_iconst (pc := 87) (1 : Int32) d_X12_ands_87 rfl ?_
      refine r_isub (pc := 88) d_X12_ands_88 ?_
      refine r_ck (f := (oV Sh)) rfl (fun hc15 => ?_)
      refine q_aald (pc := 89) (j := ((gI D 102 27) - (1 : Int32)).toNatClampNeg) (K_129 h0) (Or.inl ⟨rfl, rfl⟩) hc15 rfl (RW_129 h0 _ (z_lt hc15)) d_X12_ands_89 ?_
      refine r_iload_n (pc := 90) 2 d_X12_ands_90 rfl rfl ?_
      refine r_ck (f := (oV Sh)) rfl (fun hc16 => ?_)
      refine q_iald (pc := 91) (j := v2.toNatClampNeg) (RK_129 h0 _ (z_lt hc15)) hc16 rfl d_X12_ands_91 ?_
      refine r_ior (pc := 92) d_X12_ands_92 ?_
      refine q_cV (f := (oV Sh)) (av := [.ref 102, .int ((gI D (130 + ((gI D 102 27) - (2 : Int32)).toNatClampNeg) v1.toNatClampNeg) ||| (gI D (130 + ((gI D 102 27) - (1 : Int32)).toNatClampNeg) v2.toNatClampNeg))]) (st := []) (z_runV ck_X12_makes rfl ml_X12_257 ci_X12_makes cv_X12_makes (K_102 h0) (ci := 12) rfl rfl (Nat.le_of_ble_eq_true rfl) d_X12_ands_93) (s_X12_makes hst h0 (by omega)) kp_V (fun D17 _ => ?_)
      refine r_iinc (pc := 96) ((v2 + (1 : Int32))) 2 (ls' := [(2, .int (v2 + (1 : Int32))), (0, .ref 102), (1, .int v1)]) d_X12_ands_96 rfl rfl (Nat.le_of_ble_eq_true rfl) rfl ?_
      refine r_goto (pc := 99) 50 d_X12_ands_99 (by decide) ?_
      refine r_pick [1, 2, 0] (ls' := [(0, .ref 102), (1, .int v1), (2, .int (v2 + (1 : Int32)))]) rfl ?_
      exact hk50 v1 (v2 + (1 : Int32)) D17 
theorem s_X12_ands_33 {X : zX} {Sh : zSh} {d : Nat} (hst : (zl X).stackTraces = false) (h0 : zSh0 Sh) (hd : 5 ≤ d) (f_X12_asked : zD → Option zD) (hf_X12_asked : ∀ (D : zD), Sd X m_X12_asked d [.ref 102] (Sh, D) ((oV Sh) (f_X12_asked D))) (k4 : zD → Option zD) (hk4 : ∀  (D : zD) , Rn X m_X12_ands (d + 1) 4 [(0, .ref 102)] [] (Sh, D) ((oV Sh) (k4 D))) : ∀ (n : Nat) (v1 : Int32) (D : zD) , Rn X m_X12_ands (d + 1) 33 [(0, .ref 102), (1, .int v1)] [] (Sh, D) ((oV Sh) (fn_X12_ands_33 f_X12_asked k4 n v1 D)) := by
  intro n
  induction n with
  | zero => intro v1 D; exact Rn_none rfl
  | succ n hk33 =>
    intro v1 D
    rw [fn_X12_ands_33]
    refine r_iload_n (pc := 33) 1 d_X12_ands_33 rfl rfl ?_
    refine r_aload_n (pc := 34) 0 d_X12_ands_34 rfl rfl ?_
    refine r_getR (pc := 35) g_X12_58 (K_102 h0) rfl (R_102_30 h0) d_X12_ands_35 ?_
    refine r_aload_n (pc := 38) 0 d_X12_ands_38 rfl rfl ?_
    refine q_gI (pc := 39) g_X12_179 (K_102 h0) rfl d_X12_ands_39 ?_
    refine r_iconst (pc := 42) (2 : Int32) d_X12_ands_42 rfl ?_
    refine r_isub (pc := 43) d_X12_ands_43 ?_
    refine r_ck (f := (oV Sh)) rfl (fun hc7 => ?_)
    refine q_iald (pc := 44) (j := ((gI D 102 27) - (2 : Int32)).toNatClampNeg) (K_160 h0) hc7 rfl d_X12_ands_44 ?_
    refine r_icmp_ge (f := (oV Sh)) (pc := 45) 108 d_X12_ands_45 (by decide) (fun c8 => ?_) (fun c8 => ?_)
    · refine r_pick [0] (ls' := [(0, .ref 102)]) rfl ?_
      exact s_X12_ands_108 hst h0 hd f_X12_asked hf_X12_asked k4 hk4 D
    · refine r_iconst (pc := 48) (0 : Int32) d_X12_ands_48 rfl ?_
      refine r_istore_n (pc := 49) (ls' := [(2, .int (0 : Int32)), (0, .ref 102), (1, .int v1)]) d_X12_ands_49 rfl (Nat.le_of_ble_eq_true rfl) rfl ?_
      refine r_pick [1, 2, 0] (ls' := [(0, .ref 102), (1, .int v1), (2, .int (0 : Int32))]) rfl ?_
      exact s_X12_ands_50 hst h0 hd f_X12_asked hf_X12_asked (fn_X12_ands_33 f_X12_asked k4 n) hk33 zFU  v1 (0 : Int32) D
theorem s_X12_ands_4 {X : zX} {Sh : zSh} {d : Nat} (hst : (zl X).stackTraces = false) (h0 : zSh0 Sh) (hd : 5 ≤ d) (f_X12_asked : zD → Option zD) (hf_X12_asked : ∀ (D : zD), Sd X m_X12_asked d [.ref 102] (Sh, D) ((oV Sh) (f_X12_asked D))) : ∀ (n : Nat)  (D : zD) , Rn X m_X12_ands (d + 1) 4 [(0, .ref 102)] [] (Sh, D) ((oV Sh) (fn_X12_ands_4 f_X12_asked n D)) := by
  intro n
  induction n with
  | zero => intro D; exact Rn_none rfl
  | succ n hk4 =>
    intro D
    rw [fn_X12_ands_4]
    refine r_aload_n (pc := 4) 0 d_X12_ands_4 rfl rfl ?_
    refine r_iconst (pc := 5) (1 : Int32) d_X12_ands_5 rfl ?_
    refine r_bipush (pc := 6) (14 : Int32) d_X12_ands_6 rfl ?_
    refine r_iconst (pc := 8) (4 : Int32) d_X12_ands_8 rfl ?_
    refine q_cI (f := (oV Sh)) (av := [.ref 102, .int (1 : Int32), .int (14 : Int32), .int (4 : Int32)]) (st := []) (z_runV ck_X12_eats rfl ml_X12_251 ci_X12_eats cv_X12_eats (K_102 h0) (ci := 12) rfl rfl (Nat.le_of_ble_eq_true rfl) d_X12_ands_9) (s_X12_eats hst h0 (by omega)) kp_V (fun q2 _ => ?_)
    refine r_if_eq (f := (oV Sh)) (pc := 12) 125 d_X12_ands_12 (by decide) (fun c3 => ?_) (fun c3 => ?_)
    · exact r_vret (pc := 125) rfl d_X12_ands_125
    · refine r_aload_n (pc := 15) 0 d_X12_ands_15 rfl rfl ?_
      refine q_cV (f := (oV Sh)) (av := [.ref 102]) (st := []) (z_runV ck_X12_asked rfl ml_X12_263 ci_X12_asked cv_X12_asked (K_102 h0) (ci := 12) rfl rfl (Nat.le_of_ble_eq_true rfl) d_X12_ands_16) (hf_X12_asked q2.2) kp_V (fun D4 _ => ?_)
      refine r_aload_n (pc := 19) 0 d_X12_ands_19 rfl rfl ?_
      refine q_gI (pc := 20) g_X12_129 (K_102 h0) rfl d_X12_ands_20 ?_
      refine r_if_eq (f := (oV Sh)) (pc := 23) 27 d_X12_ands_23 (by decide) (fun c5 => ?_) (fun c5 => ?_)
      · refine r_aload_n (pc := 27) 0 d_X12_ands_27 rfl rfl ?_
        refine q_cV (f := (oV Sh)) (av := [.ref 102]) (st := []) (z_runV ck_X12_clearMade rfl ml_X12_254 ci_X12_clearMade cv_X12_clearMade (K_102 h0) (ci := 12) rfl rfl (Nat.le_of_ble_eq_true rfl) d_X12_ands_28) (s_X12_clearMade hst h0 (by omega)) kp_V (fun D6 _ => ?_)
        refine r_iconst (pc := 31) (0 : Int32) d_X12_ands_31 rfl ?_
        refine r_istore_n (pc := 32) (ls' := [(1, .int (0 : Int32)), (0, .ref 102)]) d_X12_ands_32 rfl (Nat.le_of_ble_eq_true rfl) rfl ?_
        refine r_pick [1, 0] (ls' := [(0, .ref 102), (1, .int (0 : Int32))]) rfl ?_
        exact s_X12_ands_33 hst h0 hd f_X12_asked hf_X12_asked (fn_X12_ands_4 f_X12_asked n) hk4 zFU  (0 : Int32) D6
      · exact r_vret (pc := 26) rfl d_X12_ands_26
theorem b_X12_ands {X : zX} {Sh : zSh} {d : Nat} (hst : (zl X).stackTraces = false) (h0 : zSh0 Sh) (hd : 5 ≤ d) (f_X12_asked : zD → Option zD) (hf_X12_asked : ∀ (D : zD), Sd X m_X12_asked d [.ref 102] (Sh, D) ((oV Sh) (f_X12_asked D))) {D : zD} : Sd X m_X12_ands (d + 1) [.ref 102] (Sh, D) ((oV Sh) (fn_X12_ands f_X12_asked D)) := by
  refine z_body ck_X12_ands rfl (Nat.le_of_ble_eq_true rfl) rfl hst ?_
  rw [fn_X12_ands]
  show Rn X m_X12_ands (d + 1) 0 [(0, .ref 102)] [] (Sh, D) _
  refine r_aload_n (pc := 0) 0 d_X12_ands_0 rfl rfl ?_
  refine q_cV (f := (oV Sh)) (av := [.ref 102]) (st := []) (z_runV ck_X12_asked rfl ml_X12_263 ci_X12_asked cv_X12_asked (K_102 h0) (ci := 12) rfl rfl (Nat.le_of_ble_eq_true rfl) d_X12_ands_1) (hf_X12_asked D) kp_V (fun D1 _ => ?_)
  refine r_pick [0] (ls' := [(0, .ref 102)]) rfl ?_
  exact s_X12_ands_4 hst h0 hd f_X12_asked hf_X12_asked zFU  D1
/-! CoveredSignsModel.ors -/
theorem d_X12_ors_0 : decode (yB m_X12_ors) 0 = .ok (.aload_n 0, 1) := by decide +kernel
theorem d_X12_ors_1 : decode (yB m_X12_ors) 1 = .ok (.invokevirtual 248, 3) := by decide +kernel
theorem d_X12_ors_4 : decode (yB m_X12_ors) 4 = .ok (.aload_n 0, 1) := by decide +kernel
theorem d_X12_ors_5 : decode (yB m_X12_ors) 5 = .ok (.bipush 15, 2) := by decide +kernel
theorem d_X12_ors_7 : decode (yB m_X12_ors) 7 = .ok (.bipush 18, 2) := by decide +kernel
theorem d_X12_ors_9 : decode (yB m_X12_ors) 9 = .ok (.iconst 0, 1) := by decide +kernel
theorem d_X12_ors_10 : decode (yB m_X12_ors) 10 = .ok (.invokevirtual 251, 3) := by decide +kernel
theorem d_X12_ors_13 : decode (yB m_X12_ors) 13 = .ok (.ifCond .eq 87, 3) := by decide +kernel
theorem d_X12_ors_16 : decode (yB m_X12_ors) 16 = .ok (.aload_n 0, 1) := by decide +kernel
theorem d_X12_ors_17 : decode (yB m_X12_ors) 17 = .ok (.invokevirtual 248, 3) := by decide +kernel
theorem d_X12_ors_20 : decode (yB m_X12_ors) 20 = .ok (.aload_n 0, 1) := by decide +kernel
theorem d_X12_ors_21 : decode (yB m_X12_ors) 21 = .ok (.getfield 129, 3) := by decide +kernel
theorem d_X12_ors_24 : decode (yB m_X12_ors) 24 = .ok (.ifCond .eq 4, 3) := by decide +kernel
theorem d_X12_ors_27 : decode (yB m_X12_ors) 27 = .ok (.return_, 1) := by decide +kernel
theorem d_X12_ors_28 : decode (yB m_X12_ors) 28 = .ok (.aload_n 0, 1) := by decide +kernel
theorem d_X12_ors_29 : decode (yB m_X12_ors) 29 = .ok (.invokevirtual 254, 3) := by decide +kernel
theorem d_X12_ors_32 : decode (yB m_X12_ors) 32 = .ok (.aload_n 0, 1) := by decide +kernel
theorem d_X12_ors_33 : decode (yB m_X12_ors) 33 = .ok (.getfield 179, 3) := by decide +kernel
theorem d_X12_ors_36 : decode (yB m_X12_ors) 36 = .ok (.iconst 2, 1) := by decide +kernel
theorem d_X12_ors_37 : decode (yB m_X12_ors) 37 = .ok (.isub, 1) := by decide +kernel
theorem d_X12_ors_38 : decode (yB m_X12_ors) 38 = .ok (.istore_n 1, 1) := by decide +kernel
theorem d_X12_ors_39 : decode (yB m_X12_ors) 39 = .ok (.iload_n 1, 1) := by decide +kernel
theorem d_X12_ors_40 : decode (yB m_X12_ors) 40 = .ok (.aload_n 0, 1) := by decide +kernel
theorem d_X12_ors_41 : decode (yB m_X12_ors) 41 = .ok (.getfield 179, 3) := by decide +kernel
theorem d_X12_ors_44 : decode (yB m_X12_ors) 44 = .ok (.if_icmp .ge 39, 3) := by decide +kernel
theorem d_X12_ors_47 : decode (yB m_X12_ors) 47 = .ok (.iconst 0, 1) := by decide +kernel
theorem d_X12_ors_48 : decode (yB m_X12_ors) 48 = .ok (.istore_n 2, 1) := by decide +kernel
theorem d_X12_ors_49 : decode (yB m_X12_ors) 49 = .ok (.iload_n 2, 1) := by decide +kernel
theorem d_X12_ors_50 : decode (yB m_X12_ors) 50 = .ok (.aload_n 0, 1) := by decide +kernel
theorem d_X12_ors_51 : decode (yB m_X12_ors) 51 = .ok (.getfield 58, 3) := by decide +kernel
theorem d_X12_ors_54 : decode (yB m_X12_ors) 54 = .ok (.iload_n 1, 1) := by decide +kernel
theorem d_X12_ors_55 : decode (yB m_X12_ors) 55 = .ok (.iaload, 1) := by decide +kernel
theorem d_X12_ors_56 : decode (yB m_X12_ors) 56 = .ok (.if_icmp .ge 21, 3) := by decide +kernel
theorem d_X12_ors_59 : decode (yB m_X12_ors) 59 = .ok (.aload_n 0, 1) := by decide +kernel
theorem d_X12_ors_60 : decode (yB m_X12_ors) 60 = .ok (.aload_n 0, 1) := by decide +kernel
theorem d_X12_ors_61 : decode (yB m_X12_ors) 61 = .ok (.getfield 55, 3) := by decide +kernel
theorem d_X12_ors_64 : decode (yB m_X12_ors) 64 = .ok (.iload_n 1, 1) := by decide +kernel
theorem d_X12_ors_65 : decode (yB m_X12_ors) 65 = .ok (.aaload, 1) := by decide +kernel
theorem d_X12_ors_66 : decode (yB m_X12_ors) 66 = .ok (.iload_n 2, 1) := by decide +kernel
theorem d_X12_ors_67 : decode (yB m_X12_ors) 67 = .ok (.iaload, 1) := by decide +kernel
theorem d_X12_ors_68 : decode (yB m_X12_ors) 68 = .ok (.invokevirtual 257, 3) := by decide +kernel
theorem d_X12_ors_71 : decode (yB m_X12_ors) 71 = .ok (.iinc 2 1, 3) := by decide +kernel
theorem d_X12_ors_74 : decode (yB m_X12_ors) 74 = .ok (.goto (-25), 3) := by decide +kernel
theorem d_X12_ors_77 : decode (yB m_X12_ors) 77 = .ok (.iinc 1 1, 3) := by decide +kernel
theorem d_X12_ors_80 : decode (yB m_X12_ors) 80 = .ok (.goto (-41), 3) := by decide +kernel
theorem d_X12_ors_83 : decode (yB m_X12_ors) 83 = .ok (.aload_n 0, 1) := by decide +kernel
theorem d_X12_ors_84 : decode (yB m_X12_ors) 84 = .ok (.dup, 1) := by decide +kernel
theorem d_X12_ors_85 : decode (yB m_X12_ors) 85 = .ok (.getfield 179, 3) := by decide +kernel
theorem d_X12_ors_88 : decode (yB m_X12_ors) 88 = .ok (.iconst 2, 1) := by decide +kernel
theorem d_X12_ors_89 : decode (yB m_X12_ors) 89 = .ok (.isub, 1) := by decide +kernel
theorem d_X12_ors_90 : decode (yB m_X12_ors) 90 = .ok (.putfield 179, 3) := by decide +kernel
theorem d_X12_ors_93 : decode (yB m_X12_ors) 93 = .ok (.aload_n 0, 1) := by decide +kernel
theorem d_X12_ors_94 : decode (yB m_X12_ors) 94 = .ok (.invokevirtual 260, 3) := by decide +kernel
theorem d_X12_ors_97 : decode (yB m_X12_ors) 97 = .ok (.goto (-93), 3) := by decide +kernel
theorem d_X12_ors_100 : decode (yB m_X12_ors) 100 = .ok (.return_, 1) := by decide +kernel
def fn_X12_ors_83 (f_X12_ands : zD → Option zD) (k4 : zD → Option zD) (D : zD) : Option zD := zlet (sI D 102 27 ((gI D 102 27) - (2 : Int32))) fun D9 => (fn_X12_lays D9).bind fun D10 => (k4 D10)
def fn_X12_ors_49 (f_X12_ands : zD → Option zD) (k39 : Int32 → zD → Option zD) : Nat → Int32 → Int32 → zD → Option zD
  | 0, _, _, _ => none
  | n + 1, v1, v2, D => zck v1 30 <| (if (gI D 160 v1.toNatClampNeg) ≤ v2 then ((k39 (v1 + (1 : Int32)) D)) else (zck v1 30 <| zck v2 501 <| (fn_X12_makes (gI D (130 + v1.toNatClampNeg) v2.toNatClampNeg) D).bind fun D15 => ((fn_X12_ors_49 f_X12_ands k39 n) v1 (v2 + (1 : Int32)) D15)))
def fn_X12_ors_39 (f_X12_ands : zD → Option zD) (k4 : zD → Option zD) : Nat → Int32 → zD → Option zD
  | 0, _, _ => none
  | n + 1, v1, D => (if (gI D 102 27) ≤ v1 then ((fn_X12_ors_83 f_X12_ands k4 D)) else ((fn_X12_ors_49 f_X12_ands (fn_X12_ors_39 f_X12_ands k4 n) zFU v1 (0 : Int32) D)))
def fn_X12_ors_4 (f_X12_ands : zD → Option zD) : Nat → zD → Option zD
  | 0, _ => none
  | n + 1, D => (fn_X12_eats (15 : Int32) (18 : Int32) (0 : Int32) D).bind fun q2 => (if q2.1 = 0 then ((some q2.2)) else ((f_X12_ands q2.2).bind fun D4 => (if (gI D4 102 5) = 0 then ((fn_X12_clearMade D4).bind fun D6 => zlet ((gI D6 102 27) - (2 : Int32)) fun x7 => (fn_X12_ors_39 f_X12_ands (fn_X12_ors_4 f_X12_ands n) zFU x7 D6)) else ((some D4)))))
def fn_X12_ors (f_X12_ands : zD → Option zD) (D : zD) : Option zD := (f_X12_ands D).bind fun D1 => (fn_X12_ors_4 f_X12_ands zFU D1)
theorem s_X12_ors_83 {X : zX} {Sh : zSh} {d : Nat} (hst : (zl X).stackTraces = false) (h0 : zSh0 Sh) (hd : 5 ≤ d) (f_X12_ands : zD → Option zD) (hf_X12_ands : ∀ (D : zD), Sd X m_X12_ands d [.ref 102] (Sh, D) ((oV Sh) (f_X12_ands D))) (k4 : zD → Option zD) (hk4 : ∀  (D : zD) , Rn X m_X12_ors (d + 1) 4 [(0, .ref 102)] [] (Sh, D) ((oV Sh) (k4 D)))  (D : zD)  : Rn X m_X12_ors (d + 1) 83 [(0, .ref 102)] [] (Sh, D) ((oV Sh) (fn_X12_ors_83 f_X12_ands k4 D)) := by
  rw [fn_X12_ors_83]
  refine r_aload_n (pc := 83) 0 d_X12_ors_83 rfl rfl ?_
  refine r_dup (pc := 84) d_X12_ors_84 rfl ?_
  refine q_gI (pc := 85) g_X12_179 (K_102 h0) rfl d_X12_ors_85 ?_
  refine r_iconst (pc := 88) (2 : Int32) d_X12_ors_88 rfl ?_
  refine r_isub (pc := 89) d_X12_ors_89 ?_
  refine r_putI (pc := 90) p_X12_179 (K_102 h0) rfl (Or.inl rfl) d_X12_ors_90 ?_
  refine r_letD (f := (oV Sh)) (fun D9 => ?_)
  refine r_aload_n (pc := 93) 0 d_X12_ors_93 rfl rfl ?_
  refine q_cV (f := (oV Sh)) (av := [.ref 102]) (st := []) (z_runV ck_X12_lays rfl ml_X12_260 ci_X12_lays cv_X12_lays (K_102 h0) (ci := 12) rfl rfl (Nat.le_of_ble_eq_true rfl) d_X12_ors_94) (s_X12_lays hst h0 (by omega)) kp_V (fun D10 _ => ?_)
  refine r_goto (pc := 97) 4 d_X12_ors_97 (by decide) ?_
  refine r_pick [0] (ls' := [(0, .ref 102)]) rfl ?_
  exact hk4 D10 
theorem s_X12_ors_49 {X : zX} {Sh : zSh} {d : Nat} (hst : (zl X).stackTraces = false) (h0 : zSh0 Sh) (hd : 5 ≤ d) (f_X12_ands : zD → Option zD) (hf_X12_ands : ∀ (D : zD), Sd X m_X12_ands d [.ref 102] (Sh, D) ((oV Sh) (f_X12_ands D))) (k39 : Int32 → zD → Option zD) (hk39 : ∀ (v1 : Int32) (D : zD) , Rn X m_X12_ors (d + 1) 39 [(0, .ref 102), (1, .int v1)] [] (Sh, D) ((oV Sh) (k39 v1 D))) : ∀ (n : Nat) (v1 : Int32) (v2 : Int32) (D : zD) , Rn X m_X12_ors (d + 1) 49 [(0, .ref 102), (1, .int v1), (2, .int v2)] [] (Sh, D) ((oV Sh) (fn_X12_ors_49 f_X12_ands k39 n v1 v2 D)) := by
  intro n
  induction n with
  | zero => intro v1 v2 D; exact Rn_none rfl
  | succ n hk49 =>
    intro v1 v2 D
    rw [fn_X12_ors_49]
    refine r_iload_n (pc := 49) 2 d_X12_ors_49 rfl rfl ?_
    refine r_aload_n (pc := 50) 0 d_X12_ors_50 rfl rfl ?_
    refine r_getR (pc := 51) g_X12_58 (K_102 h0) rfl (R_102_30 h0) d_X12_ors_51 ?_
    refine r_iload_n (pc := 54) 1 d_X12_ors_54 rfl rfl ?_
    refine r_ck (f := (oV Sh)) rfl (fun hc11 => ?_)
    refine q_iald (pc := 55) (j := v1.toNatClampNeg) (K_160 h0) hc11 rfl d_X12_ors_55 ?_
    refine r_icmp_ge (f := (oV Sh)) (pc := 56) 77 d_X12_ors_56 (by decide) (fun c12 => ?_) (fun c12 => ?_)
    · refine r_iinc (pc := 77) ((v1 + (1 : Int32))) 1 (ls' := [(1, .int (v1 + (1 : Int32))), (0, .ref 102), (2, .int v2)]) d_X12_ors_77 rfl rfl (Nat.le_of_ble_eq_true rfl) rfl ?_
      refine r_goto (pc := 80) 39 d_X12_ors_80 (by decide) ?_
      refine r_pick [1, 0] (ls' := [(0, .ref 102), (1, .int (v1 + (1 : Int32)))]) rfl ?_
      exact hk39 (v1 + (1 : Int32)) D 
    · refine r_aload_n (pc := 59) 0 d_X12_ors_59 rfl rfl ?_
      refine r_aload_n (pc := 60) 0 d_X12_ors_60 rfl rfl ?_
      refine r_getR (pc := 61) g_X12_55 (K_102 h0) rfl (R_102_29 h0) d_X12_ors_61 ?_
      refine r_iload_n (pc := 64) 1 d_X12_ors_64 rfl rfl ?_
      refine r_ck (f := (oV Sh)) rfl (fun hc13 => ?_)
      refine q_aald (pc := 65) (j := v1.toNatClampNeg) (K_129 h0) (Or.inl ⟨rfl, rfl⟩) hc13 rfl (RW_129 h0 _ (z_lt hc13)) d_X12_ors_65 ?_
      refine r_iload_n (pc := 66) 2 d_X12_ors_66 rfl rfl ?_
      refine r_ck (f := (oV Sh)) rfl (fun hc14 => ?_)
      refine q_iald (pc := 67) (j := v2.toNatClampNeg) (RK_129 h0 _ (z_lt hc13)) hc14 rfl d_X12_ors_67 ?_
      refine q_cV (f := (oV Sh)) (av := [.ref 102, .int (gI D (130 + v1.toNatClampNeg) v2.toNatClampNeg)]) (st := []) (z_runV ck_X12_makes rfl ml_X12_257 ci_X12_makes cv_X12_makes (K_102 h0) (ci := 12) rfl rfl (Nat.le_of_ble_eq_true rfl) d_X12_ors_68) (s_X12_makes hst h0 (by omega)) kp_V (fun D15 _ => ?_)
      refine r_iinc (pc := 71) ((v2 + (1 : Int32))) 2 (ls' := [(2, .int (v2 + (1 : Int32))), (0, .ref 102), (1, .int v1)]) d_X12_ors_71 rfl rfl (Nat.le_of_ble_eq_true rfl) rfl ?_
      refine r_goto (pc := 74) 49 d_X12_ors_74 (by decide) ?_
      refine r_pick [1, 2, 0] (ls' := [(0, .ref 102), (1, .int v1), (2, .int (v2 + (1 : Int32)))]) rfl ?_
      exact hk49 v1 (v2 + (1 : Int32)) D15 
theorem s_X12_ors_39 {X : zX} {Sh : zSh} {d : Nat} (hst : (zl X).stackTraces = false) (h0 : zSh0 Sh) (hd : 5 ≤ d) (f_X12_ands : zD → Option zD) (hf_X12_ands : ∀ (D : zD), Sd X m_X12_ands d [.ref 102] (Sh, D) ((oV Sh) (f_X12_ands D))) (k4 : zD → Option zD) (hk4 : ∀  (D : zD) , Rn X m_X12_ors (d + 1) 4 [(0, .ref 102)] [] (Sh, D) ((oV Sh) (k4 D))) : ∀ (n : Nat) (v1 : Int32) (D : zD) , Rn X m_X12_ors (d + 1) 39 [(0, .ref 102), (1, .int v1)] [] (Sh, D) ((oV Sh) (fn_X12_ors_39 f_X12_ands k4 n v1 D)) := by
  intro n
  induction n with
  | zero => intro v1 D; exact Rn_none rfl
  | succ n hk39 =>
    intro v1 D
    rw [fn_X12_ors_39]
    refine r_iload_n (pc := 39) 1 d_X12_ors_39 rfl rfl ?_
    refine r_aload_n (pc := 40) 0 d_X12_ors_40 rfl rfl ?_
    refine q_gI (pc := 41) g_X12_179 (K_102 h0) rfl d_X12_ors_41 ?_
    refine r_icmp_ge (f := (oV Sh)) (pc := 44) 83 d_X12_ors_44 (by decide) (fun c8 => ?_) (fun c8 => ?_)
    · refine r_pick [0] (ls' := [(0, .ref 102)]) rfl ?_
      exact s_X12_ors_83 hst h0 hd f_X12_ands hf_X12_ands k4 hk4 D
    · refine r_iconst (pc := 47) (0 : Int32) d_X12_ors_47 rfl ?_
      refine r_istore_n (pc := 48) (ls' := [(2, .int (0 : Int32)), (0, .ref 102), (1, .int v1)]) d_X12_ors_48 rfl (Nat.le_of_ble_eq_true rfl) rfl ?_
      refine r_pick [1, 2, 0] (ls' := [(0, .ref 102), (1, .int v1), (2, .int (0 : Int32))]) rfl ?_
      exact s_X12_ors_49 hst h0 hd f_X12_ands hf_X12_ands (fn_X12_ors_39 f_X12_ands k4 n) hk39 zFU  v1 (0 : Int32) D
theorem s_X12_ors_4 {X : zX} {Sh : zSh} {d : Nat} (hst : (zl X).stackTraces = false) (h0 : zSh0 Sh) (hd : 5 ≤ d) (f_X12_ands : zD → Option zD) (hf_X12_ands : ∀ (D : zD), Sd X m_X12_ands d [.ref 102] (Sh, D) ((oV Sh) (f_X12_ands D))) : ∀ (n : Nat)  (D : zD) , Rn X m_X12_ors (d + 1) 4 [(0, .ref 102)] [] (Sh, D) ((oV Sh) (fn_X12_ors_4 f_X12_ands n D)) := by
  intro n
  induction n with
  | zero => intro D; exact Rn_none rfl
  | succ n hk4 =>
    intro D
    rw [fn_X12_ors_4]
    refine r_aload_n (pc := 4) 0 d_X12_ors_4 rfl rfl ?_
    refine r_bipush (pc := 5) (15 : Int32) d_X12_ors_5 rfl ?_
    refine r_bipush (pc := 7) (18 : Int32) d_X12_ors_7 rfl ?_
    refine r_iconst (pc := 9) (0 : Int32) d_X12_ors_9 rfl ?_
    refine q_cI (f := (oV Sh)) (av := [.ref 102, .int (15 : Int32), .int (18 : Int32), .int (0 : Int32)]) (st := []) (z_runV ck_X12_eats rfl ml_X12_251 ci_X12_eats cv_X12_eats (K_102 h0) (ci := 12) rfl rfl (Nat.le_of_ble_eq_true rfl) d_X12_ors_10) (s_X12_eats hst h0 (by omega)) kp_V (fun q2 _ => ?_)
    refine r_if_eq (f := (oV Sh)) (pc := 13) 100 d_X12_ors_13 (by decide) (fun c3 => ?_) (fun c3 => ?_)
    · exact r_vret (pc := 100) rfl d_X12_ors_100
    · refine r_aload_n (pc := 16) 0 d_X12_ors_16 rfl rfl ?_
      refine q_cV (f := (oV Sh)) (av := [.ref 102]) (st := []) (z_runV ck_X12_ands rfl ml_X12_248 ci_X12_ands cv_X12_ands (K_102 h0) (ci := 12) rfl rfl (Nat.le_of_ble_eq_true rfl) d_X12_ors_17) (hf_X12_ands q2.2) kp_V (fun D4 _ => ?_)
      refine r_aload_n (pc := 20) 0 d_X12_ors_20 rfl rfl ?_
      refine q_gI (pc := 21) g_X12_129 (K_102 h0) rfl d_X12_ors_21 ?_
      refine r_if_eq (f := (oV Sh)) (pc := 24) 28 d_X12_ors_24 (by decide) (fun c5 => ?_) (fun c5 => ?_)
      · refine r_aload_n (pc := 28) 0 d_X12_ors_28 rfl rfl ?_
        refine q_cV (f := (oV Sh)) (av := [.ref 102]) (st := []) (z_runV ck_X12_clearMade rfl ml_X12_254 ci_X12_clearMade cv_X12_clearMade (K_102 h0) (ci := 12) rfl rfl (Nat.le_of_ble_eq_true rfl) d_X12_ors_29) (s_X12_clearMade hst h0 (by omega)) kp_V (fun D6 _ => ?_)
        refine r_aload_n (pc := 32) 0 d_X12_ors_32 rfl rfl ?_
        refine q_gI (pc := 33) g_X12_179 (K_102 h0) rfl d_X12_ors_33 ?_
        refine r_iconst (pc := 36) (2 : Int32) d_X12_ors_36 rfl ?_
        refine r_isub (pc := 37) d_X12_ors_37 ?_
        refine r_leti (f := (oV Sh)) (fun x7 => ?_)
        refine r_istore_n (pc := 38) (ls' := [(1, .int x7), (0, .ref 102)]) d_X12_ors_38 rfl (Nat.le_of_ble_eq_true rfl) rfl ?_
        refine r_pick [1, 0] (ls' := [(0, .ref 102), (1, .int x7)]) rfl ?_
        exact s_X12_ors_39 hst h0 hd f_X12_ands hf_X12_ands (fn_X12_ors_4 f_X12_ands n) hk4 zFU  x7 D6
      · exact r_vret (pc := 27) rfl d_X12_ors_27
theorem b_X12_ors {X : zX} {Sh : zSh} {d : Nat} (hst : (zl X).stackTraces = false) (h0 : zSh0 Sh) (hd : 5 ≤ d) (f_X12_ands : zD → Option zD) (hf_X12_ands : ∀ (D : zD), Sd X m_X12_ands d [.ref 102] (Sh, D) ((oV Sh) (f_X12_ands D))) {D : zD} : Sd X m_X12_ors (d + 1) [.ref 102] (Sh, D) ((oV Sh) (fn_X12_ors f_X12_ands D)) := by
  refine z_body ck_X12_ors rfl (Nat.le_of_ble_eq_true rfl) rfl hst ?_
  rw [fn_X12_ors]
  show Rn X m_X12_ors (d + 1) 0 [(0, .ref 102)] [] (Sh, D) _
  refine r_aload_n (pc := 0) 0 d_X12_ors_0 rfl rfl ?_
  refine q_cV (f := (oV Sh)) (av := [.ref 102]) (st := []) (z_runV ck_X12_ands rfl ml_X12_248 ci_X12_ands cv_X12_ands (K_102 h0) (ci := 12) rfl rfl (Nat.le_of_ble_eq_true rfl) d_X12_ors_1) (hf_X12_ands D) kp_V (fun D1 _ => ?_)
  refine r_pick [0] (ls' := [(0, .ref 102)]) rfl ?_
  exact s_X12_ors_4 hst h0 hd f_X12_ands hf_X12_ands zFU  D1
def fn_X12_askedR : Nat → zD → Option zD
  | 0, _ => none
  | n + 1, D => fn_X12_asked (fn_X12_askedR n) (fn_X12_ors (fn_X12_ands (fn_X12_askedR n))) D
theorem s_X12_askedR {X : zX} {Sh : zSh} (hst : (zl X).stackTraces = false) (h0 : zSh0 Sh) : ∀ (n d : Nat) (hd : n * 3 + 106 ≤ d)  (D : zD) , Sd X m_X12_asked d [.ref 102] (Sh, D) ((oV Sh) (fn_X12_askedR n D))
  | 0, d, _, _ => fun o M' h => by cases h
  | n + 1, d, hd, D => by
    obtain ⟨d, rfl⟩ : ∃ e, d = e + 1 := ⟨d - 1, by omega⟩
    obtain ⟨e, he⟩ : ∃ e, d = e + 2 := ⟨d - 2, by omega⟩
    have hS : ∀ d2, n * 3 + 106 ≤ d2 → ∀  (D : zD) , Sd X m_X12_asked d2 [.ref 102] (Sh, D) ((oV Sh) (fn_X12_askedR n D)) := fun d2 h2  D  => s_X12_askedR hst h0 n d2 h2  D 
    have hC : ∀  (D : zD) , Sd X m_X12_ors d [.ref 102] (Sh, D) ((oV Sh) (fn_X12_ors (fn_X12_ands (fn_X12_askedR n)) D)) := by
      intro  D 
      subst he
      exact b_X12_ors hst h0 (by omega) _ (fun  D  => b_X12_ands hst h0 (by omega) _ (fun  D  => hS e (by omega)  D ) ) 
    exact b_X12_asked hst h0 (by omega) _ (fun  D  => hS d (by omega)  D ) _ hC 
def fn_X12_orsT  (D : zD) : Option zD := fn_X12_ors (fn_X12_ands (fn_X12_askedR 12))  D
theorem s_X12_orsT {X : zX} {Sh : zSh} {d : Nat} (hst : (zl X).stackTraces = false) (h0 : zSh0 Sh) (hd : 145 ≤ d)   {D : zD} : Sd X m_X12_ors d [.ref 102] (Sh, D) ((oV Sh) (fn_X12_orsT  D)) := by
  obtain ⟨d, rfl⟩ : ∃ e, d = e + 2 := ⟨d - 2, by omega⟩
  exact b_X12_ors hst h0 (by omega) _ (fun  D  => b_X12_ands hst h0 (by omega) _ (fun  D  => s_X12_askedR hst h0 12 d (by omega)  D ) ) 
/-! CoveredSignsModel.ones -/
theorem d_X12_ones_0 : decode (yB m_X12_ones) 0 = .ok (.iconst 0, 1) := by decide +kernel
theorem d_X12_ones_1 : decode (yB m_X12_ones) 1 = .ok (.istore_n 1, 1) := by decide +kernel
theorem d_X12_ones_2 : decode (yB m_X12_ones) 2 = .ok (.iload_n 0, 1) := by decide +kernel
theorem d_X12_ones_3 : decode (yB m_X12_ones) 3 = .ok (.istore_n 2, 1) := by decide +kernel
theorem d_X12_ones_4 : decode (yB m_X12_ones) 4 = .ok (.iload_n 2, 1) := by decide +kernel
theorem d_X12_ones_5 : decode (yB m_X12_ones) 5 = .ok (.ifCond .eq 15, 3) := by decide +kernel
theorem d_X12_ones_8 : decode (yB m_X12_ones) 8 = .ok (.iload_n 2, 1) := by decide +kernel
theorem d_X12_ones_9 : decode (yB m_X12_ones) 9 = .ok (.iload_n 2, 1) := by decide +kernel
theorem d_X12_ones_10 : decode (yB m_X12_ones) 10 = .ok (.iconst 1, 1) := by decide +kernel
theorem d_X12_ones_11 : decode (yB m_X12_ones) 11 = .ok (.isub, 1) := by decide +kernel
theorem d_X12_ones_12 : decode (yB m_X12_ones) 12 = .ok (.iand, 1) := by decide +kernel
theorem d_X12_ones_13 : decode (yB m_X12_ones) 13 = .ok (.istore_n 2, 1) := by decide +kernel
theorem d_X12_ones_14 : decode (yB m_X12_ones) 14 = .ok (.iinc 1 1, 3) := by decide +kernel
theorem d_X12_ones_17 : decode (yB m_X12_ones) 17 = .ok (.goto (-13), 3) := by decide +kernel
theorem d_X12_ones_20 : decode (yB m_X12_ones) 20 = .ok (.iload_n 1, 1) := by decide +kernel
theorem d_X12_ones_21 : decode (yB m_X12_ones) 21 = .ok (.ireturn, 1) := by decide +kernel
def fn_X12_ones_4 (v0 : Int32) : Nat → Int32 → Int32 → Option Int32
  | 0, _, _ => none
  | n + 1, v1, v2 => (if v2 = 0 then ((some v1)) else (zlet (v2 &&& (v2 - (1 : Int32))) fun x2 => ((fn_X12_ones_4 v0 n) (v1 + (1 : Int32)) x2)))
def fn_X12_ones (v0 : Int32) : Option Int32 := (fn_X12_ones_4 v0 zFU (0 : Int32) v0)
theorem s_X12_ones_4 {X : zX} {Sh : zSh} {d : Nat} (hst : (zl X).stackTraces = false) (h0 : zSh0 Sh) (hd : 0 ≤ d) {v0 : Int32} (D : zD) : ∀ (n : Nat) (v1 : Int32) (v2 : Int32) , Rn X m_X12_ones (d + 1) 4 [(1, .int v1), (2, .int v2)] [] (Sh, D) ((oP Sh D) (fn_X12_ones_4 v0 n v1 v2)) := by
  intro n
  induction n with
  | zero => intro v1 v2; exact Rn_none rfl
  | succ n hk4 =>
    intro v1 v2
    rw [fn_X12_ones_4]
    refine r_iload_n (pc := 4) 1 d_X12_ones_4 rfl rfl ?_
    refine r_if_eq (f := (oP Sh D)) (pc := 5) 20 d_X12_ones_5 (by decide) (fun c1 => ?_) (fun c1 => ?_)
    · refine r_iload_n (pc := 20) 0 d_X12_ones_20 rfl rfl ?_
      exact r_iret (pc := 21) rfl d_X12_ones_21
    · refine r_iload_n (pc := 8) 1 d_X12_ones_8 rfl rfl ?_
      refine r_iload_n (pc := 9) 1 d_X12_ones_9 rfl rfl ?_
      refine r_iconst (pc := 10) (1 : Int32) d_X12_ones_10 rfl ?_
      refine r_isub (pc := 11) d_X12_ones_11 ?_
      refine r_iand (pc := 12) d_X12_ones_12 ?_
      refine r_leti (f := (oP Sh D)) (fun x2 => ?_)
      refine r_istore_n (pc := 13) (ls' := [(2, .int x2), (1, .int v1)]) d_X12_ones_13 rfl (Nat.le_of_ble_eq_true rfl) rfl ?_
      refine r_iinc (pc := 14) ((v1 + (1 : Int32))) 1 (ls' := [(1, .int (v1 + (1 : Int32))), (2, .int x2)]) d_X12_ones_14 rfl rfl (Nat.le_of_ble_eq_true rfl) rfl ?_
      refine r_goto (pc := 17) 4 d_X12_ones_17 (by decide) ?_
      refine r_pick [0, 1] (ls' := [(1, .int (v1 + (1 : Int32))), (2, .int x2)]) rfl ?_
      exact hk4 (v1 + (1 : Int32)) x2 
theorem s_X12_ones {X : zX} {Sh : zSh} {d : Nat} (hst : (zl X).stackTraces = false) (h0 : zSh0 Sh) (hd : 1 ≤ d) {v0 : Int32} {D : zD} : Sd X m_X12_ones d [.int v0] (Sh, D) ((oP Sh D) (fn_X12_ones v0)) := by
  obtain ⟨d, rfl⟩ : ∃ e, d = e + 1 := ⟨d - 1, by omega⟩
  replace hd : 0 ≤ d := by omega
  refine z_body ck_X12_ones rfl (Nat.le_of_ble_eq_true rfl) rfl hst ?_
  rw [fn_X12_ones]
  show Rn X m_X12_ones (d + 1) 0 [(0, .int v0)] [] (Sh, D) _
  refine r_iconst (pc := 0) (0 : Int32) d_X12_ones_0 rfl ?_
  refine r_istore_n (pc := 1) (ls' := [(1, .int (0 : Int32)), (0, .int v0)]) d_X12_ones_1 rfl (Nat.le_of_ble_eq_true rfl) rfl ?_
  refine r_iload_n (pc := 2) 1 d_X12_ones_2 rfl rfl ?_
  refine r_istore_n (pc := 3) (ls' := [(2, .int v0), (1, .int (0 : Int32)), (0, .int v0)]) d_X12_ones_3 rfl (Nat.le_of_ble_eq_true rfl) rfl ?_
  refine r_pick [1, 0] (ls' := [(1, .int (0 : Int32)), (2, .int v0)]) rfl ?_
  exact s_X12_ones_4 hst h0 hd D zFU  (0 : Int32) v0
/-! CoveredSignsModel.isBehind -/
theorem d_X12_isBehind_0 : decode (yB m_X12_isBehind) 0 = .ok (.iload_n 0, 1) := by decide +kernel
theorem d_X12_isBehind_1 : decode (yB m_X12_isBehind) 1 = .ok (.invokestatic 293, 3) := by decide +kernel
theorem d_X12_isBehind_4 : decode (yB m_X12_isBehind) 4 = .ok (.iload_n 1, 1) := by decide +kernel
theorem d_X12_isBehind_5 : decode (yB m_X12_isBehind) 5 = .ok (.invokestatic 293, 3) := by decide +kernel
theorem d_X12_isBehind_8 : decode (yB m_X12_isBehind) 8 = .ok (.if_icmp .gt 19, 3) := by decide +kernel
theorem d_X12_isBehind_11 : decode (yB m_X12_isBehind) 11 = .ok (.iload_n 0, 1) := by decide +kernel
theorem d_X12_isBehind_12 : decode (yB m_X12_isBehind) 12 = .ok (.invokestatic 293, 3) := by decide +kernel
theorem d_X12_isBehind_15 : decode (yB m_X12_isBehind) 15 = .ok (.iload_n 1, 1) := by decide +kernel
theorem d_X12_isBehind_16 : decode (yB m_X12_isBehind) 16 = .ok (.invokestatic 293, 3) := by decide +kernel
theorem d_X12_isBehind_19 : decode (yB m_X12_isBehind) 19 = .ok (.if_icmp .ne 12, 3) := by decide +kernel
theorem d_X12_isBehind_22 : decode (yB m_X12_isBehind) 22 = .ok (.iload_n 0, 1) := by decide +kernel
theorem d_X12_isBehind_23 : decode (yB m_X12_isBehind) 23 = .ok (.iload_n 1, 1) := by decide +kernel
theorem d_X12_isBehind_24 : decode (yB m_X12_isBehind) 24 = .ok (.if_icmp .le 7, 3) := by decide +kernel
theorem d_X12_isBehind_27 : decode (yB m_X12_isBehind) 27 = .ok (.iconst 1, 1) := by decide +kernel
theorem d_X12_isBehind_28 : decode (yB m_X12_isBehind) 28 = .ok (.goto 4, 3) := by decide +kernel
theorem d_X12_isBehind_31 : decode (yB m_X12_isBehind) 31 = .ok (.iconst 0, 1) := by decide +kernel
theorem d_X12_isBehind_32 : decode (yB m_X12_isBehind) 32 = .ok (.ireturn, 1) := by decide +kernel
def fn_X12_isBehind (v0 : Int32) (v1 : Int32) : Option Int32 := (fn_X12_ones v0).bind fun x1 => (fn_X12_ones v1).bind fun x2 => (if x2 < x1 then ((some (1 : Int32))) else ((fn_X12_ones v0).bind fun x4 => (fn_X12_ones v1).bind fun x5 => (if x4 = x5 then ((if v0 ≤ v1 then ((some (0 : Int32))) else ((some (1 : Int32))))) else ((some (0 : Int32))))))
theorem s_X12_isBehind {X : zX} {Sh : zSh} {d : Nat} (hst : (zl X).stackTraces = false) (h0 : zSh0 Sh) (hd : 2 ≤ d) {v0 : Int32} {v1 : Int32} {D : zD} : Sd X m_X12_isBehind d [.int v0, .int v1] (Sh, D) ((oP Sh D) (fn_X12_isBehind v0 v1)) := by
  obtain ⟨d, rfl⟩ : ∃ e, d = e + 1 := ⟨d - 1, by omega⟩
  replace hd : 1 ≤ d := by omega
  refine z_body ck_X12_isBehind rfl (Nat.le_of_ble_eq_true rfl) rfl hst ?_
  rw [fn_X12_isBehind]
  show Rn X m_X12_isBehind (d + 1) 0 [(0, .int v0), (1, .int v1)] [] (Sh, D) _
  refine r_iload_n (pc := 0) 0 d_X12_isBehind_0 rfl rfl ?_
  refine q_cP (f := (oP Sh D)) (av := [.int v0]) (st := []) (z_runS ck_X12_ones rfl ml_X12_293 cs_X12_ones rfl (Nat.le_of_ble_eq_true rfl) d_X12_isBehind_1) (s_X12_ones hst h0 (by omega)) kp_P (fun x1 _ => ?_)
  refine r_iload_n (pc := 4) 1 d_X12_isBehind_4 rfl rfl ?_
  refine q_cP (f := (oP Sh D)) (av := [.int v1]) (st := [.int x1]) (z_runS ck_X12_ones rfl ml_X12_293 cs_X12_ones rfl (Nat.le_of_ble_eq_true rfl) d_X12_isBehind_5) (s_X12_ones hst h0 (by omega)) kp_P (fun x2 _ => ?_)
  refine r_icmp_gt (f := (oP Sh D)) (pc := 8) 27 d_X12_isBehind_8 (by decide) (fun c3 => ?_) (fun c3 => ?_)
  · refine r_iconst (pc := 27) (1 : Int32) d_X12_isBehind_27 rfl ?_
    refine r_goto (pc := 28) 32 d_X12_isBehind_28 (by decide) ?_
    exact r_zret (pc := 32) rfl (by decide) d_X12_isBehind_32
  · refine r_iload_n (pc := 11) 0 d_X12_isBehind_11 rfl rfl ?_
    refine q_cP (f := (oP Sh D)) (av := [.int v0]) (st := []) (z_runS ck_X12_ones rfl ml_X12_293 cs_X12_ones rfl (Nat.le_of_ble_eq_true rfl) d_X12_isBehind_12) (s_X12_ones hst h0 (by omega)) kp_P (fun x4 _ => ?_)
    refine r_iload_n (pc := 15) 1 d_X12_isBehind_15 rfl rfl ?_
    refine q_cP (f := (oP Sh D)) (av := [.int v1]) (st := [.int x4]) (z_runS ck_X12_ones rfl ml_X12_293 cs_X12_ones rfl (Nat.le_of_ble_eq_true rfl) d_X12_isBehind_16) (s_X12_ones hst h0 (by omega)) kp_P (fun x5 _ => ?_)
    refine r_icmp_ne (f := (oP Sh D)) (pc := 19) 31 d_X12_isBehind_19 (by decide) (fun c6 => ?_) (fun c6 => ?_)
    · refine r_iconst (pc := 31) (0 : Int32) d_X12_isBehind_31 rfl ?_
      exact r_zret (pc := 32) rfl (by decide) d_X12_isBehind_32
    · refine r_iload_n (pc := 22) 0 d_X12_isBehind_22 rfl rfl ?_
      refine r_iload_n (pc := 23) 1 d_X12_isBehind_23 rfl rfl ?_
      refine r_icmp_le (f := (oP Sh D)) (pc := 24) 31 d_X12_isBehind_24 (by decide) (fun c7 => ?_) (fun c7 => ?_)
      · refine r_iconst (pc := 31) (0 : Int32) d_X12_isBehind_31 rfl ?_
        exact r_zret (pc := 32) rfl (by decide) d_X12_isBehind_32
      · refine r_iconst (pc := 27) (1 : Int32) d_X12_isBehind_27 rfl ?_
        refine r_goto (pc := 28) 32 d_X12_isBehind_28 (by decide) ?_
        exact r_zret (pc := 32) rfl (by decide) d_X12_isBehind_32
/-! CoveredSignsModel.swapsCovers -/
theorem d_X12_swapsCovers_0 : decode (yB m_X12_swapsCovers) 0 = .ok (.aload_n 0, 1) := by decide +kernel
theorem d_X12_swapsCovers_1 : decode (yB m_X12_swapsCovers) 1 = .ok (.getfield 52, 3) := by decide +kernel
theorem d_X12_swapsCovers_4 : decode (yB m_X12_swapsCovers) 4 = .ok (.iload_n 1, 1) := by decide +kernel
theorem d_X12_swapsCovers_5 : decode (yB m_X12_swapsCovers) 5 = .ok (.iaload, 1) := by decide +kernel
theorem d_X12_swapsCovers_6 : decode (yB m_X12_swapsCovers) 6 = .ok (.istore_n 2, 1) := by decide +kernel
theorem d_X12_swapsCovers_7 : decode (yB m_X12_swapsCovers) 7 = .ok (.aload_n 0, 1) := by decide +kernel
theorem d_X12_swapsCovers_8 : decode (yB m_X12_swapsCovers) 8 = .ok (.getfield 52, 3) := by decide +kernel
theorem d_X12_swapsCovers_11 : decode (yB m_X12_swapsCovers) 11 = .ok (.iload_n 1, 1) := by decide +kernel
theorem d_X12_swapsCovers_12 : decode (yB m_X12_swapsCovers) 12 = .ok (.aload_n 0, 1) := by decide +kernel
theorem d_X12_swapsCovers_13 : decode (yB m_X12_swapsCovers) 13 = .ok (.getfield 52, 3) := by decide +kernel
theorem d_X12_swapsCovers_16 : decode (yB m_X12_swapsCovers) 16 = .ok (.iload_n 1, 1) := by decide +kernel
theorem d_X12_swapsCovers_17 : decode (yB m_X12_swapsCovers) 17 = .ok (.iconst 1, 1) := by decide +kernel
theorem d_X12_swapsCovers_18 : decode (yB m_X12_swapsCovers) 18 = .ok (.iadd, 1) := by decide +kernel
theorem d_X12_swapsCovers_19 : decode (yB m_X12_swapsCovers) 19 = .ok (.iaload, 1) := by decide +kernel
theorem d_X12_swapsCovers_20 : decode (yB m_X12_swapsCovers) 20 = .ok (.iastore, 1) := by decide +kernel
theorem d_X12_swapsCovers_21 : decode (yB m_X12_swapsCovers) 21 = .ok (.aload_n 0, 1) := by decide +kernel
theorem d_X12_swapsCovers_22 : decode (yB m_X12_swapsCovers) 22 = .ok (.getfield 52, 3) := by decide +kernel
theorem d_X12_swapsCovers_25 : decode (yB m_X12_swapsCovers) 25 = .ok (.iload_n 1, 1) := by decide +kernel
theorem d_X12_swapsCovers_26 : decode (yB m_X12_swapsCovers) 26 = .ok (.iconst 1, 1) := by decide +kernel
theorem d_X12_swapsCovers_27 : decode (yB m_X12_swapsCovers) 27 = .ok (.iadd, 1) := by decide +kernel
theorem d_X12_swapsCovers_28 : decode (yB m_X12_swapsCovers) 28 = .ok (.iload_n 2, 1) := by decide +kernel
theorem d_X12_swapsCovers_29 : decode (yB m_X12_swapsCovers) 29 = .ok (.iastore, 1) := by decide +kernel
theorem d_X12_swapsCovers_30 : decode (yB m_X12_swapsCovers) 30 = .ok (.return_, 1) := by decide +kernel
def fn_X12_swapsCovers (v1 : Int32) (D : zD) : Option zD := zck v1 500 <| zlet (gI D 128 v1.toNatClampNeg) fun x2 => zck (v1 + (1 : Int32)) 500 <| zck v1 500 <| zlet (sI D 128 v1.toNatClampNeg (gI D 128 (v1 + (1 : Int32)).toNatClampNeg)) fun D5 => zck (v1 + (1 : Int32)) 500 <| zlet (sI D5 128 (v1 + (1 : Int32)).toNatClampNeg x2) fun D7 => (some D7)
theorem s_X12_swapsCovers {X : zX} {Sh : zSh} {d : Nat} (hst : (zl X).stackTraces = false) (h0 : zSh0 Sh) (hd : 1 ≤ d) {v1 : Int32} {D : zD} : Sd X m_X12_swapsCovers d [.ref 102, .int v1] (Sh, D) ((oV Sh) (fn_X12_swapsCovers v1 D)) := by
  obtain ⟨d, rfl⟩ : ∃ e, d = e + 1 := ⟨d - 1, by omega⟩
  replace hd : 0 ≤ d := by omega
  refine z_body ck_X12_swapsCovers rfl (Nat.le_of_ble_eq_true rfl) rfl hst ?_
  rw [fn_X12_swapsCovers]
  show Rn X m_X12_swapsCovers (d + 1) 0 [(0, .ref 102), (1, .int v1)] [] (Sh, D) _
  refine r_aload_n (pc := 0) 0 d_X12_swapsCovers_0 rfl rfl ?_
  refine r_getR (pc := 1) g_X12_52 (K_102 h0) rfl (R_102_28 h0) d_X12_swapsCovers_1 ?_
  refine r_iload_n (pc := 4) 1 d_X12_swapsCovers_4 rfl rfl ?_
  refine r_ck (f := (oV Sh)) rfl (fun hc1 => ?_)
  refine q_iald (pc := 5) (j := v1.toNatClampNeg) (K_128 h0) hc1 rfl d_X12_swapsCovers_5 ?_
  refine r_leti (f := (oV Sh)) (fun x2 => ?_)
  refine r_istore_n (pc := 6) (ls' := [(2, .int x2), (0, .ref 102), (1, .int v1)]) d_X12_swapsCovers_6 rfl (Nat.le_of_ble_eq_true rfl) rfl ?_
  refine r_aload_n (pc := 7) 1 d_X12_swapsCovers_7 rfl rfl ?_
  refine r_getR (pc := 8) g_X12_52 (K_102 h0) rfl (R_102_28 h0) d_X12_swapsCovers_8 ?_
  refine r_iload_n (pc := 11) 2 d_X12_swapsCovers_11 rfl rfl ?_
  refine r_aload_n (pc := 12) 1 d_X12_swapsCovers_12 rfl rfl ?_
  refine r_getR (pc := 13) g_X12_52 (K_102 h0) rfl (R_102_28 h0) d_X12_swapsCovers_13 ?_
  refine r_iload_n (pc := 16) 2 d_X12_swapsCovers_16 rfl rfl ?_
  refine r_iconst (pc := 17) (1 : Int32) d_X12_swapsCovers_17 rfl ?_
  refine r_iadd (pc := 18) d_X12_swapsCovers_18 ?_
  refine r_ck (f := (oV Sh)) rfl (fun hc3 => ?_)
  refine q_iald (pc := 19) (j := (v1 + (1 : Int32)).toNatClampNeg) (K_128 h0) hc3 rfl d_X12_swapsCovers_19 ?_
  refine r_ck (f := (oV Sh)) rfl (fun hc4 => ?_)
  refine q_iast (pc := 20) (j := v1.toNatClampNeg) (K_128 h0) hc4 rfl  d_X12_swapsCovers_20 ?_
  refine r_letD (f := (oV Sh)) (fun D5 => ?_)
  refine r_aload_n (pc := 21) 1 d_X12_swapsCovers_21 rfl rfl ?_
  refine r_getR (pc := 22) g_X12_52 (K_102 h0) rfl (R_102_28 h0) d_X12_swapsCovers_22 ?_
  refine r_iload_n (pc := 25) 2 d_X12_swapsCovers_25 rfl rfl ?_
  refine r_iconst (pc := 26) (1 : Int32) d_X12_swapsCovers_26 rfl ?_
  refine r_iadd (pc := 27) d_X12_swapsCovers_27 ?_
  refine r_iload_n (pc := 28) 0 d_X12_swapsCovers_28 rfl rfl ?_
  refine r_ck (f := (oV Sh)) rfl (fun hc6 => ?_)
  refine q_iast (pc := 29) (j := (v1 + (1 : Int32)).toNatClampNeg) (K_128 h0) hc6 rfl  d_X12_swapsCovers_29 ?_
  refine r_letD (f := (oV Sh)) (fun D7 => ?_)
  exact r_vret (pc := 30) rfl d_X12_swapsCovers_30
/-! CoveredSignsModel.rule -/
theorem d_X12_rule_0 : decode (yB m_X12_rule) 0 = .ok (.aload_n 0, 1) := by decide +kernel
theorem d_X12_rule_1 : decode (yB m_X12_rule) 1 = .ok (.iconst 0, 1) := by decide +kernel
theorem d_X12_rule_2 : decode (yB m_X12_rule) 2 = .ok (.putfield 113, 3) := by decide +kernel
theorem d_X12_rule_5 : decode (yB m_X12_rule) 5 = .ok (.aload_n 0, 1) := by decide +kernel
theorem d_X12_rule_6 : decode (yB m_X12_rule) 6 = .ok (.iload_n 1, 1) := by decide +kernel
theorem d_X12_rule_7 : decode (yB m_X12_rule) 7 = .ok (.iconst 0, 1) := by decide +kernel
theorem d_X12_rule_8 : decode (yB m_X12_rule) 8 = .ok (.aload_n 0, 1) := by decide +kernel
theorem d_X12_rule_9 : decode (yB m_X12_rule) 9 = .ok (.getfield 116, 3) := by decide +kernel
theorem d_X12_rule_12 : decode (yB m_X12_rule) 12 = .ok (.invokestatic 147, 3) := by decide +kernel
theorem d_X12_rule_15 : decode (yB m_X12_rule) 15 = .ok (.ifCond .ne 7, 3) := by decide +kernel
theorem d_X12_rule_18 : decode (yB m_X12_rule) 18 = .ok (.iconst 1, 1) := by decide +kernel
theorem d_X12_rule_19 : decode (yB m_X12_rule) 19 = .ok (.goto 4, 3) := by decide +kernel
theorem d_X12_rule_22 : decode (yB m_X12_rule) 22 = .ok (.iconst 0, 1) := by decide +kernel
theorem d_X12_rule_23 : decode (yB m_X12_rule) 23 = .ok (.iconst 1, 1) := by decide +kernel
theorem d_X12_rule_24 : decode (yB m_X12_rule) 24 = .ok (.invokevirtual 214, 3) := by decide +kernel
theorem d_X12_rule_27 : decode (yB m_X12_rule) 27 = .ok (.ifCond .eq 5, 3) := by decide +kernel
theorem d_X12_rule_30 : decode (yB m_X12_rule) 30 = .ok (.iconst 0, 1) := by decide +kernel
theorem d_X12_rule_31 : decode (yB m_X12_rule) 31 = .ok (.ireturn, 1) := by decide +kernel
theorem d_X12_rule_32 : decode (yB m_X12_rule) 32 = .ok (.aload_n 0, 1) := by decide +kernel
theorem d_X12_rule_33 : decode (yB m_X12_rule) 33 = .ok (.iload_n 1, 1) := by decide +kernel
theorem d_X12_rule_34 : decode (yB m_X12_rule) 34 = .ok (.invokevirtual 218, 3) := by decide +kernel
theorem d_X12_rule_37 : decode (yB m_X12_rule) 37 = .ok (.aload_n 0, 1) := by decide +kernel
theorem d_X12_rule_38 : decode (yB m_X12_rule) 38 = .ok (.invokevirtual 272, 3) := by decide +kernel
theorem d_X12_rule_41 : decode (yB m_X12_rule) 41 = .ok (.aload_n 0, 1) := by decide +kernel
theorem d_X12_rule_42 : decode (yB m_X12_rule) 42 = .ok (.invokevirtual 135, 3) := by decide +kernel
theorem d_X12_rule_45 : decode (yB m_X12_rule) 45 = .ok (.aload_n 0, 1) := by decide +kernel
theorem d_X12_rule_46 : decode (yB m_X12_rule) 46 = .ok (.getfield 129, 3) := by decide +kernel
theorem d_X12_rule_49 : decode (yB m_X12_rule) 49 = .ok (.ifCond .ne 23, 3) := by decide +kernel
theorem d_X12_rule_52 : decode (yB m_X12_rule) 52 = .ok (.aload_n 0, 1) := by decide +kernel
theorem d_X12_rule_53 : decode (yB m_X12_rule) 53 = .ok (.getfield 122, 3) := by decide +kernel
theorem d_X12_rule_56 : decode (yB m_X12_rule) 56 = .ok (.aload_n 0, 1) := by decide +kernel
theorem d_X12_rule_57 : decode (yB m_X12_rule) 57 = .ok (.getfield 119, 3) := by decide +kernel
theorem d_X12_rule_60 : decode (yB m_X12_rule) 60 = .ok (.if_icmp .ge 12, 3) := by decide +kernel
theorem d_X12_rule_63 : decode (yB m_X12_rule) 63 = .ok (.aload_n 0, 1) := by decide +kernel
theorem d_X12_rule_64 : decode (yB m_X12_rule) 64 = .ok (.iconst 1, 1) := by decide +kernel
theorem d_X12_rule_65 : decode (yB m_X12_rule) 65 = .ok (.aload_n 0, 1) := by decide +kernel
theorem d_X12_rule_66 : decode (yB m_X12_rule) 66 = .ok (.getfield 122, 3) := by decide +kernel
theorem d_X12_rule_69 : decode (yB m_X12_rule) 69 = .ok (.invokevirtual 142, 3) := by decide +kernel
theorem d_X12_rule_72 : decode (yB m_X12_rule) 72 = .ok (.aload_n 0, 1) := by decide +kernel
theorem d_X12_rule_73 : decode (yB m_X12_rule) 73 = .ok (.getfield 129, 3) := by decide +kernel
theorem d_X12_rule_76 : decode (yB m_X12_rule) 76 = .ok (.ifCond .ne 19, 3) := by decide +kernel
theorem d_X12_rule_79 : decode (yB m_X12_rule) 79 = .ok (.aload_n 0, 1) := by decide +kernel
theorem d_X12_rule_80 : decode (yB m_X12_rule) 80 = .ok (.getfield 175, 3) := by decide +kernel
theorem d_X12_rule_83 : decode (yB m_X12_rule) 83 = .ok (.ifCond .eq 12, 3) := by decide +kernel
theorem d_X12_rule_86 : decode (yB m_X12_rule) 86 = .ok (.aload_n 0, 1) := by decide +kernel
theorem d_X12_rule_87 : decode (yB m_X12_rule) 87 = .ok (.iconst 4, 1) := by decide +kernel
theorem d_X12_rule_88 : decode (yB m_X12_rule) 88 = .ok (.aload_n 0, 1) := by decide +kernel
theorem d_X12_rule_89 : decode (yB m_X12_rule) 89 = .ok (.getfield 119, 3) := by decide +kernel
theorem d_X12_rule_92 : decode (yB m_X12_rule) 92 = .ok (.invokevirtual 142, 3) := by decide +kernel
theorem d_X12_rule_95 : decode (yB m_X12_rule) 95 = .ok (.aload_n 0, 1) := by decide +kernel
theorem d_X12_rule_96 : decode (yB m_X12_rule) 96 = .ok (.aload_n 0, 1) := by decide +kernel
theorem d_X12_rule_97 : decode (yB m_X12_rule) 97 = .ok (.getfield 132, 3) := by decide +kernel
theorem d_X12_rule_100 : decode (yB m_X12_rule) 100 = .ok (.putfield 9, 3) := by decide +kernel
theorem d_X12_rule_103 : decode (yB m_X12_rule) 103 = .ok (.aload_n 0, 1) := by decide +kernel
theorem d_X12_rule_104 : decode (yB m_X12_rule) 104 = .ok (.getfield 129, 3) := by decide +kernel
theorem d_X12_rule_107 : decode (yB m_X12_rule) 107 = .ok (.ifCond .eq 11, 3) := by decide +kernel
theorem d_X12_rule_110 : decode (yB m_X12_rule) 110 = .ok (.aload_n 0, 1) := by decide +kernel
theorem d_X12_rule_111 : decode (yB m_X12_rule) 111 = .ok (.getfield 129, 3) := by decide +kernel
theorem d_X12_rule_114 : decode (yB m_X12_rule) 114 = .ok (.bipush 10, 2) := by decide +kernel
theorem d_X12_rule_116 : decode (yB m_X12_rule) 116 = .ok (.isub, 1) := by decide +kernel
theorem d_X12_rule_117 : decode (yB m_X12_rule) 117 = .ok (.ireturn, 1) := by decide +kernel
theorem d_X12_rule_118 : decode (yB m_X12_rule) 118 = .ok (.aload_n 0, 1) := by decide +kernel
theorem d_X12_rule_119 : decode (yB m_X12_rule) 119 = .ok (.aload_n 0, 1) := by decide +kernel
theorem d_X12_rule_120 : decode (yB m_X12_rule) 120 = .ok (.getfield 58, 3) := by decide +kernel
theorem d_X12_rule_123 : decode (yB m_X12_rule) 123 = .ok (.iconst 0, 1) := by decide +kernel
theorem d_X12_rule_124 : decode (yB m_X12_rule) 124 = .ok (.iaload, 1) := by decide +kernel
theorem d_X12_rule_125 : decode (yB m_X12_rule) 125 = .ok (.putfield 49, 3) := by decide +kernel
theorem d_X12_rule_128 : decode (yB m_X12_rule) 128 = .ok (.iconst 0, 1) := by decide +kernel
theorem d_X12_rule_129 : decode (yB m_X12_rule) 129 = .ok (.istore_n 2, 1) := by decide +kernel
theorem d_X12_rule_130 : decode (yB m_X12_rule) 130 = .ok (.iload_n 2, 1) := by decide +kernel
theorem d_X12_rule_131 : decode (yB m_X12_rule) 131 = .ok (.aload_n 0, 1) := by decide +kernel
theorem d_X12_rule_132 : decode (yB m_X12_rule) 132 = .ok (.getfield 49, 3) := by decide +kernel
theorem d_X12_rule_135 : decode (yB m_X12_rule) 135 = .ok (.if_icmp .ge 23, 3) := by decide +kernel
theorem d_X12_rule_138 : decode (yB m_X12_rule) 138 = .ok (.aload_n 0, 1) := by decide +kernel
theorem d_X12_rule_139 : decode (yB m_X12_rule) 139 = .ok (.getfield 52, 3) := by decide +kernel
theorem d_X12_rule_142 : decode (yB m_X12_rule) 142 = .ok (.iload_n 2, 1) := by decide +kernel
theorem d_X12_rule_143 : decode (yB m_X12_rule) 143 = .ok (.aload_n 0, 1) := by decide +kernel
theorem d_X12_rule_144 : decode (yB m_X12_rule) 144 = .ok (.getfield 55, 3) := by decide +kernel
theorem d_X12_rule_147 : decode (yB m_X12_rule) 147 = .ok (.iconst 0, 1) := by decide +kernel
theorem d_X12_rule_148 : decode (yB m_X12_rule) 148 = .ok (.aaload, 1) := by decide +kernel
theorem d_X12_rule_149 : decode (yB m_X12_rule) 149 = .ok (.iload_n 2, 1) := by decide +kernel
theorem d_X12_rule_150 : decode (yB m_X12_rule) 150 = .ok (.iaload, 1) := by decide +kernel
theorem d_X12_rule_151 : decode (yB m_X12_rule) 151 = .ok (.iastore, 1) := by decide +kernel
theorem d_X12_rule_152 : decode (yB m_X12_rule) 152 = .ok (.iinc 2 1, 3) := by decide +kernel
theorem d_X12_rule_155 : decode (yB m_X12_rule) 155 = .ok (.goto (-25), 3) := by decide +kernel
theorem d_X12_rule_158 : decode (yB m_X12_rule) 158 = .ok (.iconst 0, 1) := by decide +kernel
theorem d_X12_rule_159 : decode (yB m_X12_rule) 159 = .ok (.istore_n 2, 1) := by decide +kernel
theorem d_X12_rule_160 : decode (yB m_X12_rule) 160 = .ok (.iload_n 2, 1) := by decide +kernel
theorem d_X12_rule_161 : decode (yB m_X12_rule) 161 = .ok (.aload_n 0, 1) := by decide +kernel
theorem d_X12_rule_162 : decode (yB m_X12_rule) 162 = .ok (.getfield 49, 3) := by decide +kernel
theorem d_X12_rule_165 : decode (yB m_X12_rule) 165 = .ok (.if_icmp .ge 52, 3) := by decide +kernel
theorem d_X12_rule_168 : decode (yB m_X12_rule) 168 = .ok (.iconst 0, 1) := by decide +kernel
theorem d_X12_rule_169 : decode (yB m_X12_rule) 169 = .ok (.istore_n 3, 1) := by decide +kernel
theorem d_X12_rule_170 : decode (yB m_X12_rule) 170 = .ok (.iload_n 3, 1) := by decide +kernel
theorem d_X12_rule_171 : decode (yB m_X12_rule) 171 = .ok (.iconst 1, 1) := by decide +kernel
theorem d_X12_rule_172 : decode (yB m_X12_rule) 172 = .ok (.iadd, 1) := by decide +kernel
theorem d_X12_rule_173 : decode (yB m_X12_rule) 173 = .ok (.aload_n 0, 1) := by decide +kernel
theorem d_X12_rule_174 : decode (yB m_X12_rule) 174 = .ok (.getfield 49, 3) := by decide +kernel
theorem d_X12_rule_177 : decode (yB m_X12_rule) 177 = .ok (.if_icmp .ge 34, 3) := by decide +kernel
theorem d_X12_rule_180 : decode (yB m_X12_rule) 180 = .ok (.aload_n 0, 1) := by decide +kernel
theorem d_X12_rule_181 : decode (yB m_X12_rule) 181 = .ok (.getfield 52, 3) := by decide +kernel
theorem d_X12_rule_184 : decode (yB m_X12_rule) 184 = .ok (.iload_n 3, 1) := by decide +kernel
theorem d_X12_rule_185 : decode (yB m_X12_rule) 185 = .ok (.iaload, 1) := by decide +kernel
theorem d_X12_rule_186 : decode (yB m_X12_rule) 186 = .ok (.aload_n 0, 1) := by decide +kernel
theorem d_X12_rule_187 : decode (yB m_X12_rule) 187 = .ok (.getfield 52, 3) := by decide +kernel
theorem d_X12_rule_190 : decode (yB m_X12_rule) 190 = .ok (.iload_n 3, 1) := by decide +kernel
theorem d_X12_rule_191 : decode (yB m_X12_rule) 191 = .ok (.iconst 1, 1) := by decide +kernel
theorem d_X12_rule_192 : decode (yB m_X12_rule) 192 = .ok (.iadd, 1) := by decide +kernel
theorem d_X12_rule_193 : decode (yB m_X12_rule) 193 = .ok (.iaload, 1) := by decide +kernel
theorem d_X12_rule_194 : decode (yB m_X12_rule) 194 = .ok (.invokestatic 286, 3) := by decide +kernel
theorem d_X12_rule_197 : decode (yB m_X12_rule) 197 = .ok (.ifCond .eq 8, 3) := by decide +kernel
theorem d_X12_rule_200 : decode (yB m_X12_rule) 200 = .ok (.aload_n 0, 1) := by decide +kernel
theorem d_X12_rule_201 : decode (yB m_X12_rule) 201 = .ok (.iload_n 3, 1) := by decide +kernel
theorem d_X12_rule_202 : decode (yB m_X12_rule) 202 = .ok (.invokevirtual 290, 3) := by decide +kernel
theorem d_X12_rule_205 : decode (yB m_X12_rule) 205 = .ok (.iinc 3 1, 3) := by decide +kernel
theorem d_X12_rule_208 : decode (yB m_X12_rule) 208 = .ok (.goto (-38), 3) := by decide +kernel
theorem d_X12_rule_211 : decode (yB m_X12_rule) 211 = .ok (.iinc 2 1, 3) := by decide +kernel
theorem d_X12_rule_214 : decode (yB m_X12_rule) 214 = .ok (.goto (-54), 3) := by decide +kernel
theorem d_X12_rule_217 : decode (yB m_X12_rule) 217 = .ok (.aload_n 0, 1) := by decide +kernel
theorem d_X12_rule_218 : decode (yB m_X12_rule) 218 = .ok (.iconst 0, 1) := by decide +kernel
theorem d_X12_rule_219 : decode (yB m_X12_rule) 219 = .ok (.putfield 233, 3) := by decide +kernel
theorem d_X12_rule_222 : decode (yB m_X12_rule) 222 = .ok (.aload_n 0, 1) := by decide +kernel
theorem d_X12_rule_223 : decode (yB m_X12_rule) 223 = .ok (.getfield 49, 3) := by decide +kernel
theorem d_X12_rule_226 : decode (yB m_X12_rule) 226 = .ok (.ireturn, 1) := by decide +kernel
def fn_X12_rule_170 (v1 : Int32) (k160 : Int32 → zD → Option (Int32 × zD)) : Nat → Int32 → Int32 → zD → Option (Int32 × zD)
  | 0, _, _, _ => none
  | n + 1, v2, v3, D => (if (gI D 102 26) ≤ (v3 + (1 : Int32)) then ((k160 (v2 + (1 : Int32)) D)) else (zck v3 500 <| zck (v3 + (1 : Int32)) 500 <| (fn_X12_isBehind (gI D 128 v3.toNatClampNeg) (gI D 128 (v3 + (1 : Int32)).toNatClampNeg)).bind fun x20 => (if x20 = 0 then (((fn_X12_rule_170 v1 k160 n) v2 (v3 + (1 : Int32)) D)) else ((fn_X12_swapsCovers v3 D).bind fun D22 => ((fn_X12_rule_170 v1 k160 n) v2 (v3 + (1 : Int32)) D22)))))
def fn_X12_rule_160 (v1 : Int32) : Nat → Int32 → zD → Option (Int32 × zD)
  | 0, _, _ => none
  | n + 1, v2, D => (if (gI D 102 26) ≤ v2 then (zlet (sI D 102 35 (0 : Int32)) fun D16 => (some ((gI D16 102 26), D16))) else ((fn_X12_rule_170 v1 (fn_X12_rule_160 v1 n) zFU v2 (0 : Int32) D)))
def fn_X12_rule_130 (v1 : Int32) : Nat → Int32 → zD → Option (Int32 × zD)
  | 0, _, _ => none
  | n + 1, v2, D => (if (gI D 102 26) ≤ v2 then ((fn_X12_rule_160 v1 zFU (0 : Int32) D)) else (zck v2 501 <| zck v2 500 <| zlet (sI D 128 v2.toNatClampNeg (gI D (130 + 0) v2.toNatClampNeg)) fun D25 => ((fn_X12_rule_130 v1 n) (v2 + (1 : Int32)) D25)))
def fn_X12_rule_95 (v1 : Int32) (D : zD) : Option (Int32 × zD) := zlet (sI D 102 3 (gI D 102 6)) fun D11 => (if (gI D11 102 5) = 0 then (zlet (sI D11 102 26 (gI D11 160 0)) fun D13 => (fn_X12_rule_130 v1 zFU (0 : Int32) D13)) else ((some (((gI D11 102 5) - (10 : Int32)), D11))))
def fn_X12_rule_72 (v1 : Int32) (D : zD) : Option (Int32 × zD) := (if (gI D 102 5) = 0 then ((if (gI D 102 33) = 0 then ((fn_X12_rule_95 v1 D)) else ((fn_X12_wrong (4 : Int32) (gI D 102 2) D).bind fun D27 => (fn_X12_rule_95 v1 D27)))) else ((fn_X12_rule_95 v1 D)))
def fn_X12_rule_23 (v1 : Int32) (w1 : Int32) (D : zD) : Option (Int32 × zD) := (fn_X12_bad w1 (1 : Int32) D).bind fun q4 => (if q4.1 = 0 then ((fn_X12_starts v1 q4.2).bind fun D6 => (fn_X12_orsT D6).bind fun D7 => (fn_X12_blanks D7).bind fun D8 => (if (gI D8 102 5) = 0 then ((if (gI D8 102 2) ≤ (gI D8 102 4) then ((fn_X12_rule_72 v1 D8)) else ((fn_X12_wrong (1 : Int32) (gI D8 102 4) D8).bind fun D29 => (fn_X12_rule_72 v1 D29)))) else ((fn_X12_rule_72 v1 D8)))) else ((some ((0 : Int32), q4.2))))
def fn_X12_rule (v1 : Int32) (D : zD) : Option (Int32 × zD) := zlet (sI D 102 0 (0 : Int32)) fun D1 => (fn_X12_in v1 (0 : Int32) (gI D1 102 1)).bind fun x2 => (if x2 = 0 then ((fn_X12_rule_23 v1 (1 : Int32) D1)) else ((fn_X12_rule_23 v1 (0 : Int32) D1)))
theorem s_X12_rule_170 {X : zX} {Sh : zSh} {d : Nat} (hst : (zl X).stackTraces = false) (h0 : zSh0 Sh) (hd : 145 ≤ d) {v1 : Int32} (k160 : Int32 → zD → Option (Int32 × zD)) (hk160 : ∀ (v2 : Int32) (D : zD) , Rn X m_X12_rule (d + 1) 160 [(0, .ref 102), (2, .int v2)] [] (Sh, D) ((oI Sh) (k160 v2 D))) : ∀ (n : Nat) (v2 : Int32) (v3 : Int32) (D : zD) , Rn X m_X12_rule (d + 1) 170 [(0, .ref 102), (2, .int v2), (3, .int v3)] [] (Sh, D) ((oI Sh) (fn_X12_rule_170 v1 k160 n v2 v3 D)) := by
  intro n
  induction n with
  | zero => intro v2 v3 D; exact Rn_none rfl
  | succ n hk170 =>
    intro v2 v3 D
    rw [fn_X12_rule_170]
    refine r_iload_n (pc := 170) 2 d_X12_rule_170 rfl rfl ?_
    refine r_iconst (pc := 171) (1 : Int32) d_X12_rule_171 rfl ?_
    refine r_iadd (pc := 172) d_X12_rule_172 ?_
    refine r_aload_n (pc := 173) 0 d_X12_rule_173 rfl rfl ?_
    refine q_gI (pc := 174) g_X12_49 (K_102 h0) rfl d_X12_rule_174 ?_
    refine r_icmp_ge (f := (oI Sh)) (pc := 177) 211 d_X12_rule_177 (by decide) (fun c17 => ?_) (fun c17 => ?_)
    · refine r_iinc (pc := 211) ((v2 + (1 : Int32))) 1 (ls' := [(2, .int (v2 + (1 : Int32))), (0, .ref 102), (3, .int v3)]) d_X12_rule_211 rfl rfl (Nat.le_of_ble_eq_true rfl) rfl ?_
      refine r_goto (pc := 214) 160 d_X12_rule_214 (by decide) ?_
      refine r_pick [1, 0] (ls' := [(0, .ref 102), (2, .int (v2 + (1 : Int32)))]) rfl ?_
      exact hk160 (v2 + (1 : Int32)) D 
    · refine r_aload_n (pc := 180) 0 d_X12_rule_180 rfl rfl ?_
      refine r_getR (pc := 181) g_X12_52 (K_102 h0) rfl (R_102_28 h0) d_X12_rule_181 ?_
      refine r_iload_n (pc := 184) 2 d_X12_rule_184 rfl rfl ?_
      refine r_ck (f := (oI Sh)) rfl (fun hc18 => ?_)
      refine q_iald (pc := 185) (j := v3.toNatClampNeg) (K_128 h0) hc18 rfl d_X12_rule_185 ?_
      refine r_aload_n (pc := 186) 0 d_X12_rule_186 rfl rfl ?_
      refine r_getR (pc := 187) g_X12_52 (K_102 h0) rfl (R_102_28 h0) d_X12_rule_187 ?_
      refine r_iload_n (pc := 190) 2 d_X12_rule_190 rfl rfl ?_
      refine r_iconst (pc := 191) (1 : Int32) d_X12_rule_191 rfl ?_
      refine r_iadd (pc := 192) d_X12_rule_192 ?_
      refine r_ck (f := (oI Sh)) rfl (fun hc19 => ?_)
      refine q_iald (pc := 193) (j := (v3 + (1 : Int32)).toNatClampNeg) (K_128 h0) hc19 rfl d_X12_rule_193 ?_
      refine q_cP (f := (oI Sh)) (av := [.int (gI D 128 v3.toNatClampNeg), .int (gI D 128 (v3 + (1 : Int32)).toNatClampNeg)]) (st := []) (z_runS ck_X12_isBehind rfl ml_X12_286 cs_X12_isBehind rfl (Nat.le_of_ble_eq_true rfl) d_X12_rule_194) (s_X12_isBehind hst h0 (by omega)) kp_I (fun x20 _ => ?_)
      refine r_if_eq (f := (oI Sh)) (pc := 197) 205 d_X12_rule_197 (by decide) (fun c21 => ?_) (fun c21 => ?_)
      · refine r_iinc (pc := 205) ((v3 + (1 : Int32))) 2 (ls' := [(3, .int (v3 + (1 : Int32))), (0, .ref 102), (2, .int v2)]) d_X12_rule_205 rfl rfl (Nat.le_of_ble_eq_true rfl) rfl ?_
        refine r_goto (pc := 208) 170 d_X12_rule_208 (by decide) ?_
        refine r_pick [1, 2, 0] (ls' := [(0, .ref 102), (2, .int v2), (3, .int (v3 + (1 : Int32)))]) rfl ?_
        exact hk170 v2 (v3 + (1 : Int32)) D 
      · refine r_aload_n (pc := 200) 0 d_X12_rule_200 rfl rfl ?_
        refine r_iload_n (pc := 201) 2 d_X12_rule_201 rfl rfl ?_
        refine q_cV (f := (oI Sh)) (av := [.ref 102, .int v3]) (st := []) (z_runV ck_X12_swapsCovers rfl ml_X12_290 ci_X12_swapsCovers cv_X12_swapsCovers (K_102 h0) (ci := 12) rfl rfl (Nat.le_of_ble_eq_true rfl) d_X12_rule_202) (s_X12_swapsCovers hst h0 (by omega)) kp_I (fun D22 _ => ?_)
        refine r_iinc (pc := 205) ((v3 + (1 : Int32))) 2 (ls' := [(3, .int (v3 + (1 : Int32))), (0, .ref 102), (2, .int v2)]) d_X12_rule_205 rfl rfl (Nat.le_of_ble_eq_true rfl) rfl ?_
        refine r_goto (pc := 208) 170 d_X12_rule_208 (by decide) ?_
        refine r_pick [1, 2, 0] (ls' := [(0, .ref 102), (2, .int v2), (3, .int (v3 + (1 : Int32)))]) rfl ?_
        exact hk170 v2 (v3 + (1 : Int32)) D22 
theorem s_X12_rule_160 {X : zX} {Sh : zSh} {d : Nat} (hst : (zl X).stackTraces = false) (h0 : zSh0 Sh) (hd : 145 ≤ d) {v1 : Int32} : ∀ (n : Nat) (v2 : Int32) (D : zD) , Rn X m_X12_rule (d + 1) 160 [(0, .ref 102), (2, .int v2)] [] (Sh, D) ((oI Sh) (fn_X12_rule_160 v1 n v2 D)) := by
  intro n
  induction n with
  | zero => intro v2 D; exact Rn_none rfl
  | succ n hk160 =>
    intro v2 D
    rw [fn_X12_rule_160]
    refine r_iload_n (pc := 160) 1 d_X12_rule_160 rfl rfl ?_
    refine r_aload_n (pc := 161) 0 d_X12_rule_161 rfl rfl ?_
    refine q_gI (pc := 162) g_X12_49 (K_102 h0) rfl d_X12_rule_162 ?_
    refine r_icmp_ge (f := (oI Sh)) (pc := 165) 217 d_X12_rule_165 (by decide) (fun c15 => ?_) (fun c15 => ?_)
    · refine r_aload_n (pc := 217) 0 d_X12_rule_217 rfl rfl ?_
      refine r_iconst (pc := 218) (0 : Int32) d_X12_rule_218 rfl ?_
      refine r_putI (pc := 219) p_X12_233 (K_102 h0) rfl (Or.inl rfl) d_X12_rule_219 ?_
      refine r_letD (f := (oI Sh)) (fun D16 => ?_)
      refine r_aload_n (pc := 222) 0 d_X12_rule_222 rfl rfl ?_
      refine q_gI (pc := 223) g_X12_49 (K_102 h0) rfl d_X12_rule_223 ?_
      exact r_iret (pc := 226) rfl d_X12_rule_226
    · refine r_iconst (pc := 168) (0 : Int32) d_X12_rule_168 rfl ?_
      refine r_istore_n (pc := 169) (ls' := [(3, .int (0 : Int32)), (0, .ref 102), (2, .int v2)]) d_X12_rule_169 rfl (Nat.le_of_ble_eq_true rfl) rfl ?_
      refine r_pick [1, 2, 0] (ls' := [(0, .ref 102), (2, .int v2), (3, .int (0 : Int32))]) rfl ?_
      exact s_X12_rule_170 hst h0 hd (fn_X12_rule_160 v1 n) hk160 zFU  v2 (0 : Int32) D
theorem s_X12_rule_130 {X : zX} {Sh : zSh} {d : Nat} (hst : (zl X).stackTraces = false) (h0 : zSh0 Sh) (hd : 145 ≤ d) {v1 : Int32} : ∀ (n : Nat) (v2 : Int32) (D : zD) , Rn X m_X12_rule (d + 1) 130 [(0, .ref 102), (2, .int v2)] [] (Sh, D) ((oI Sh) (fn_X12_rule_130 v1 n v2 D)) := by
  intro n
  induction n with
  | zero => intro v2 D; exact Rn_none rfl
  | succ n hk130 =>
    intro v2 D
    rw [fn_X12_rule_130]
    refine r_iload_n (pc := 130) 1 d_X12_rule_130 rfl rfl ?_
    refine r_aload_n (pc := 131) 0 d_X12_rule_131 rfl rfl ?_
    refine q_gI (pc := 132) g_X12_49 (K_102 h0) rfl d_X12_rule_132 ?_
    refine r_icmp_ge (f := (oI Sh)) (pc := 135) 158 d_X12_rule_135 (by decide) (fun c14 => ?_) (fun c14 => ?_)
    · refine r_iconst (pc := 158) (0 : Int32) d_X12_rule_158 rfl ?_
      refine r_istore_n (pc := 159) (ls' := [(2, .int (0 : Int32)), (0, .ref 102)]) d_X12_rule_159 rfl (Nat.le_of_ble_eq_true rfl) rfl ?_
      refine r_pick [1, 0] (ls' := [(0, .ref 102), (2, .int (0 : Int32))]) rfl ?_
      exact s_X12_rule_160 hst h0 hd zFU  (0 : Int32) D
    · refine r_aload_n (pc := 138) 0 d_X12_rule_138 rfl rfl ?_
      refine r_getR (pc := 139) g_X12_52 (K_102 h0) rfl (R_102_28 h0) d_X12_rule_139 ?_
      refine r_iload_n (pc := 142) 1 d_X12_rule_142 rfl rfl ?_
      refine r_aload_n (pc := 143) 0 d_X12_rule_143 rfl rfl ?_
      refine r_getR (pc := 144) g_X12_55 (K_102 h0) rfl (R_102_29 h0) d_X12_rule_144 ?_
      refine r_iconst (pc := 147) (0 : Int32) d_X12_rule_147 rfl ?_
      refine q_aald (pc := 148) (j := 0) (K_129 h0) (Or.inl ⟨rfl, rfl⟩) (by unfold vp_in; decide) rfl (RW_129 h0 _ (by decide)) d_X12_rule_148 ?_
      refine r_iload_n (pc := 149) 1 d_X12_rule_149 rfl rfl ?_
      refine r_ck (f := (oI Sh)) rfl (fun hc23 => ?_)
      refine q_iald (pc := 150) (j := v2.toNatClampNeg) (RK_129 h0 _ (by decide)) hc23 rfl d_X12_rule_150 ?_
      refine r_ck (f := (oI Sh)) rfl (fun hc24 => ?_)
      refine q_iast (pc := 151) (j := v2.toNatClampNeg) (K_128 h0) hc24 rfl  d_X12_rule_151 ?_
      refine r_letD (f := (oI Sh)) (fun D25 => ?_)
      refine r_iinc (pc := 152) ((v2 + (1 : Int32))) 1 (ls' := [(2, .int (v2 + (1 : Int32))), (0, .ref 102)]) d_X12_rule_152 rfl rfl (Nat.le_of_ble_eq_true rfl) rfl ?_
      refine r_goto (pc := 155) 130 d_X12_rule_155 (by decide) ?_
      refine r_pick [1, 0] (ls' := [(0, .ref 102), (2, .int (v2 + (1 : Int32)))]) rfl ?_
      exact hk130 (v2 + (1 : Int32)) D25 
theorem s_X12_rule_95 {X : zX} {Sh : zSh} {d : Nat} (hst : (zl X).stackTraces = false) (h0 : zSh0 Sh) (hd : 145 ≤ d) {v1 : Int32}  (D : zD)  : Rn X m_X12_rule (d + 1) 95 [(0, .ref 102)] [] (Sh, D) ((oI Sh) (fn_X12_rule_95 v1 D)) := by
  rw [fn_X12_rule_95]
  refine r_aload_n (pc := 95) 0 d_X12_rule_95 rfl rfl ?_
  refine r_aload_n (pc := 96) 0 d_X12_rule_96 rfl rfl ?_
  refine q_gI (pc := 97) g_X12_132 (K_102 h0) rfl d_X12_rule_97 ?_
  refine r_putI (pc := 100) p_X12_9 (K_102 h0) rfl (Or.inl rfl) d_X12_rule_100 ?_
  refine r_letD (f := (oI Sh)) (fun D11 => ?_)
  refine r_aload_n (pc := 103) 0 d_X12_rule_103 rfl rfl ?_
  refine q_gI (pc := 104) g_X12_129 (K_102 h0) rfl d_X12_rule_104 ?_
  refine r_if_eq (f := (oI Sh)) (pc := 107) 118 d_X12_rule_107 (by decide) (fun c12 => ?_) (fun c12 => ?_)
  · refine r_aload_n (pc := 118) 0 d_X12_rule_118 rfl rfl ?_
    refine r_aload_n (pc := 119) 0 d_X12_rule_119 rfl rfl ?_
    refine r_getR (pc := 120) g_X12_58 (K_102 h0) rfl (R_102_30 h0) d_X12_rule_120 ?_
    refine r_iconst (pc := 123) (0 : Int32) d_X12_rule_123 rfl ?_
    refine q_iald (pc := 124) (j := 0) (K_160 h0) (by unfold vp_in; decide) rfl d_X12_rule_124 ?_
    refine r_putI (pc := 125) p_X12_49 (K_102 h0) rfl (Or.inl rfl) d_X12_rule_125 ?_
    refine r_letD (f := (oI Sh)) (fun D13 => ?_)
    refine r_iconst (pc := 128) (0 : Int32) d_X12_rule_128 rfl ?_
    refine r_istore_n (pc := 129) (ls' := [(2, .int (0 : Int32)), (0, .ref 102)]) d_X12_rule_129 rfl (Nat.le_of_ble_eq_true rfl) rfl ?_
    refine r_pick [1, 0] (ls' := [(0, .ref 102), (2, .int (0 : Int32))]) rfl ?_
    exact s_X12_rule_130 hst h0 hd zFU  (0 : Int32) D13
  · refine r_aload_n (pc := 110) 0 d_X12_rule_110 rfl rfl ?_
    refine q_gI (pc := 111) g_X12_129 (K_102 h0) rfl d_X12_rule_111 ?_
    refine r_bipush (pc := 114) (10 : Int32) d_X12_rule_114 rfl ?_
    refine r_isub (pc := 116) d_X12_rule_116 ?_
    exact r_iret (pc := 117) rfl d_X12_rule_117
theorem s_X12_rule_72 {X : zX} {Sh : zSh} {d : Nat} (hst : (zl X).stackTraces = false) (h0 : zSh0 Sh) (hd : 145 ≤ d) {v1 : Int32}  (D : zD)  : Rn X m_X12_rule (d + 1) 72 [(0, .ref 102)] [] (Sh, D) ((oI Sh) (fn_X12_rule_72 v1 D)) := by
  rw [fn_X12_rule_72]
  refine r_aload_n (pc := 72) 0 d_X12_rule_72 rfl rfl ?_
  refine q_gI (pc := 73) g_X12_129 (K_102 h0) rfl d_X12_rule_73 ?_
  refine r_if_ne (f := (oI Sh)) (pc := 76) 95 d_X12_rule_76 (by decide) (fun c10 => ?_) (fun c10 => ?_)
  · refine r_pick [0] (ls' := [(0, .ref 102)]) rfl ?_
    exact s_X12_rule_95 hst h0 hd D
  · refine r_aload_n (pc := 79) 0 d_X12_rule_79 rfl rfl ?_
    refine q_gI (pc := 80) g_X12_175 (K_102 h0) rfl d_X12_rule_80 ?_
    refine r_if_eq (f := (oI Sh)) (pc := 83) 95 d_X12_rule_83 (by decide) (fun c26 => ?_) (fun c26 => ?_)
    · refine r_pick [0] (ls' := [(0, .ref 102)]) rfl ?_
      exact s_X12_rule_95 hst h0 hd D
    · refine r_aload_n (pc := 86) 0 d_X12_rule_86 rfl rfl ?_
      refine r_iconst (pc := 87) (4 : Int32) d_X12_rule_87 rfl ?_
      refine r_aload_n (pc := 88) 0 d_X12_rule_88 rfl rfl ?_
      refine q_gI (pc := 89) g_X12_119 (K_102 h0) rfl d_X12_rule_89 ?_
      refine q_cV (f := (oI Sh)) (av := [.ref 102, .int (4 : Int32), .int (gI D 102 2)]) (st := []) (z_runV ck_X12_wrong rfl ml_X12_142 ci_X12_wrong cv_X12_wrong (K_102 h0) (ci := 12) rfl rfl (Nat.le_of_ble_eq_true rfl) d_X12_rule_92) (s_X12_wrong hst h0 (by omega)) kp_I (fun D27 _ => ?_)
      refine r_pick [0] (ls' := [(0, .ref 102)]) rfl ?_
      exact s_X12_rule_95 hst h0 hd D27
theorem s_X12_rule_23 {X : zX} {Sh : zSh} {d : Nat} (hst : (zl X).stackTraces = false) (h0 : zSh0 Sh) (hd : 145 ≤ d) {v1 : Int32} (w1 : Int32) (D : zD)  : Rn X m_X12_rule (d + 1) 23 [(0, .ref 102), (1, .int v1)] [.int w1, .ref 102] (Sh, D) ((oI Sh) (fn_X12_rule_23 v1 w1 D)) := by
  rw [fn_X12_rule_23]
  refine r_iconst (pc := 23) (1 : Int32) d_X12_rule_23 rfl ?_
  refine q_cI (f := (oI Sh)) (av := [.ref 102, .int w1, .int (1 : Int32)]) (st := []) (z_runV ck_X12_bad rfl ml_X12_214 ci_X12_bad cv_X12_bad (K_102 h0) (ci := 12) rfl rfl (Nat.le_of_ble_eq_true rfl) d_X12_rule_24) (s_X12_bad hst h0 (by omega)) kp_I (fun q4 _ => ?_)
  refine r_if_eq (f := (oI Sh)) (pc := 27) 32 d_X12_rule_27 (by decide) (fun c5 => ?_) (fun c5 => ?_)
  · refine r_aload_n (pc := 32) 0 d_X12_rule_32 rfl rfl ?_
    refine r_iload_n (pc := 33) 1 d_X12_rule_33 rfl rfl ?_
    refine q_cV (f := (oI Sh)) (av := [.ref 102, .int v1]) (st := []) (z_runV ck_X12_starts rfl ml_X12_218 ci_X12_starts cv_X12_starts (K_102 h0) (ci := 12) rfl rfl (Nat.le_of_ble_eq_true rfl) d_X12_rule_34) (s_X12_starts hst h0 (by omega)) kp_I (fun D6 _ => ?_)
    refine r_aload_n (pc := 37) 0 d_X12_rule_37 rfl rfl ?_
    refine q_cV (f := (oI Sh)) (av := [.ref 102]) (st := []) (z_runV ck_X12_ors rfl ml_X12_272 ci_X12_ors cv_X12_ors (K_102 h0) (ci := 12) rfl rfl (Nat.le_of_ble_eq_true rfl) d_X12_rule_38) (s_X12_orsT hst h0 (by omega)) kp_I (fun D7 _ => ?_)
    refine r_aload_n (pc := 41) 0 d_X12_rule_41 rfl rfl ?_
    refine q_cV (f := (oI Sh)) (av := [.ref 102]) (st := []) (z_runV ck_X12_blanks rfl ml_X12_135 ci_X12_blanks cv_X12_blanks (K_102 h0) (ci := 12) rfl rfl (Nat.le_of_ble_eq_true rfl) d_X12_rule_42) (s_X12_blanks hst h0 (by omega)) kp_I (fun D8 _ => ?_)
    refine r_aload_n (pc := 45) 0 d_X12_rule_45 rfl rfl ?_
    refine q_gI (pc := 46) g_X12_129 (K_102 h0) rfl d_X12_rule_46 ?_
    refine r_if_ne (f := (oI Sh)) (pc := 49) 72 d_X12_rule_49 (by decide) (fun c9 => ?_) (fun c9 => ?_)
    · refine r_pick [0] (ls' := [(0, .ref 102)]) rfl ?_
      exact s_X12_rule_72 hst h0 hd D8
    · refine r_aload_n (pc := 52) 0 d_X12_rule_52 rfl rfl ?_
      refine q_gI (pc := 53) g_X12_122 (K_102 h0) rfl d_X12_rule_53 ?_
      refine r_aload_n (pc := 56) 0 d_X12_rule_56 rfl rfl ?_
      refine q_gI (pc := 57) g_X12_119 (K_102 h0) rfl d_X12_rule_57 ?_
      refine r_icmp_ge (f := (oI Sh)) (pc := 60) 72 d_X12_rule_60 (by decide) (fun c28 => ?_) (fun c28 => ?_)
      · refine r_pick [0] (ls' := [(0, .ref 102)]) rfl ?_
        exact s_X12_rule_72 hst h0 hd D8
      · refine r_aload_n (pc := 63) 0 d_X12_rule_63 rfl rfl ?_
        refine r_iconst (pc := 64) (1 : Int32) d_X12_rule_64 rfl ?_
        refine r_aload_n (pc := 65) 0 d_X12_rule_65 rfl rfl ?_
        refine q_gI (pc := 66) g_X12_122 (K_102 h0) rfl d_X12_rule_66 ?_
        refine q_cV (f := (oI Sh)) (av := [.ref 102, .int (1 : Int32), .int (gI D8 102 4)]) (st := []) (z_runV ck_X12_wrong rfl ml_X12_142 ci_X12_wrong cv_X12_wrong (K_102 h0) (ci := 12) rfl rfl (Nat.le_of_ble_eq_true rfl) d_X12_rule_69) (s_X12_wrong hst h0 (by omega)) kp_I (fun D29 _ => ?_)
        refine r_pick [0] (ls' := [(0, .ref 102)]) rfl ?_
        exact s_X12_rule_72 hst h0 hd D29
  · refine r_iconst (pc := 30) (0 : Int32) d_X12_rule_30 rfl ?_
    exact r_iret (pc := 31) rfl d_X12_rule_31
theorem s_X12_rule {X : zX} {Sh : zSh} {d : Nat} (hst : (zl X).stackTraces = false) (h0 : zSh0 Sh) (hd : 146 ≤ d) {v1 : Int32} {D : zD} : Sd X m_X12_rule d [.ref 102, .int v1] (Sh, D) ((oI Sh) (fn_X12_rule v1 D)) := by
  obtain ⟨d, rfl⟩ : ∃ e, d = e + 1 := ⟨d - 1, by omega⟩
  replace hd : 145 ≤ d := by omega
  refine z_body ck_X12_rule rfl (Nat.le_of_ble_eq_true rfl) rfl hst ?_
  rw [fn_X12_rule]
  show Rn X m_X12_rule (d + 1) 0 [(0, .ref 102), (1, .int v1)] [] (Sh, D) _
  refine r_aload_n (pc := 0) 0 d_X12_rule_0 rfl rfl ?_
  refine r_iconst (pc := 1) (0 : Int32) d_X12_rule_1 rfl ?_
  refine r_putI (pc := 2) p_X12_113 (K_102 h0) rfl (Or.inl rfl) d_X12_rule_2 ?_
  refine r_letD (f := (oI Sh)) (fun D1 => ?_)
  refine r_aload_n (pc := 5) 0 d_X12_rule_5 rfl rfl ?_
  refine r_iload_n (pc := 6) 1 d_X12_rule_6 rfl rfl ?_
  refine r_iconst (pc := 7) (0 : Int32) d_X12_rule_7 rfl ?_
  refine r_aload_n (pc := 8) 0 d_X12_rule_8 rfl rfl ?_
  refine q_gI (pc := 9) g_X12_116 (K_102 h0) rfl d_X12_rule_9 ?_
  refine q_cP (f := (oI Sh)) (av := [.int v1, .int (0 : Int32), .int (gI D1 102 1)]) (st := [.ref 102]) (z_runS ck_X12_in rfl ml_X12_147 cs_X12_in rfl (Nat.le_of_ble_eq_true rfl) d_X12_rule_12) (s_X12_in hst h0 (by omega)) kp_I (fun x2 _ => ?_)
  refine r_if_ne (f := (oI Sh)) (pc := 15) 22 d_X12_rule_15 (by decide) (fun c3 => ?_) (fun c3 => ?_)
  · refine r_iconst (pc := 22) (0 : Int32) d_X12_rule_22 rfl ?_
    refine r_pick [0, 1] (ls' := [(0, .ref 102), (1, .int v1)]) rfl ?_
    exact s_X12_rule_23 hst h0 hd (0 : Int32) D1
  · refine r_iconst (pc := 18) (1 : Int32) d_X12_rule_18 rfl ?_
    refine r_goto (pc := 19) 23 d_X12_rule_19 (by decide) ?_
    refine r_pick [0, 1] (ls' := [(0, .ref 102), (1, .int v1)]) rfl ?_
    exact s_X12_rule_23 hst h0 hd (1 : Int32) D1
/-! CoveredSignsModel.fault -/
theorem d_X12_fault_0 : decode (yB m_X12_fault) 0 = .ok (.aload_n 0, 1) := by decide +kernel
theorem d_X12_fault_1 : decode (yB m_X12_fault) 1 = .ok (.iconst 0, 1) := by decide +kernel
theorem d_X12_fault_2 : decode (yB m_X12_fault) 2 = .ok (.putfield 113, 3) := by decide +kernel
theorem d_X12_fault_5 : decode (yB m_X12_fault) 5 = .ok (.aload_n 0, 1) := by decide +kernel
theorem d_X12_fault_6 : decode (yB m_X12_fault) 6 = .ok (.getfield 9, 3) := by decide +kernel
theorem d_X12_fault_9 : decode (yB m_X12_fault) 9 = .ok (.ireturn, 1) := by decide +kernel
def fn_X12_fault (D : zD) : Option (Int32 × zD) := zlet (sI D 102 0 (0 : Int32)) fun D1 => (some ((gI D1 102 3), D1))
theorem s_X12_fault {X : zX} {Sh : zSh} {d : Nat} (hst : (zl X).stackTraces = false) (h0 : zSh0 Sh) (hd : 1 ≤ d)  {D : zD} : Sd X m_X12_fault d [.ref 102] (Sh, D) ((oI Sh) (fn_X12_fault D)) := by
  obtain ⟨d, rfl⟩ : ∃ e, d = e + 1 := ⟨d - 1, by omega⟩
  replace hd : 0 ≤ d := by omega
  refine z_body ck_X12_fault rfl (Nat.le_of_ble_eq_true rfl) rfl hst ?_
  rw [fn_X12_fault]
  show Rn X m_X12_fault (d + 1) 0 [(0, .ref 102)] [] (Sh, D) _
  refine r_aload_n (pc := 0) 0 d_X12_fault_0 rfl rfl ?_
  refine r_iconst (pc := 1) (0 : Int32) d_X12_fault_1 rfl ?_
  refine r_putI (pc := 2) p_X12_113 (K_102 h0) rfl (Or.inl rfl) d_X12_fault_2 ?_
  refine r_letD (f := (oI Sh)) (fun D1 => ?_)
  refine r_aload_n (pc := 5) 0 d_X12_fault_5 rfl rfl ?_
  refine q_gI (pc := 6) g_X12_9 (K_102 h0) rfl d_X12_fault_6 ?_
  exact r_iret (pc := 9) rfl d_X12_fault_9
/-! CoveredSignsModel.told -/
theorem d_X12_told_0 : decode (yB m_X12_told) 0 = .ok (.aload_n 0, 1) := by decide +kernel
theorem d_X12_told_1 : decode (yB m_X12_told) 1 = .ok (.iconst 0, 1) := by decide +kernel
theorem d_X12_told_2 : decode (yB m_X12_told) 2 = .ok (.putfield 113, 3) := by decide +kernel
theorem d_X12_told_5 : decode (yB m_X12_told) 5 = .ok (.aload_n 0, 1) := by decide +kernel
theorem d_X12_told_6 : decode (yB m_X12_told) 6 = .ok (.iload_n 1, 1) := by decide +kernel
theorem d_X12_told_7 : decode (yB m_X12_told) 7 = .ok (.iconst 0, 1) := by decide +kernel
theorem d_X12_told_8 : decode (yB m_X12_told) 8 = .ok (.iconst 5, 1) := by decide +kernel
theorem d_X12_told_9 : decode (yB m_X12_told) 9 = .ok (.invokestatic 147, 3) := by decide +kernel
theorem d_X12_told_12 : decode (yB m_X12_told) 12 = .ok (.ifCond .ne 7, 3) := by decide +kernel
theorem d_X12_told_15 : decode (yB m_X12_told) 15 = .ok (.iconst 1, 1) := by decide +kernel
theorem d_X12_told_16 : decode (yB m_X12_told) 16 = .ok (.goto 4, 3) := by decide +kernel
theorem d_X12_told_19 : decode (yB m_X12_told) 19 = .ok (.iconst 0, 1) := by decide +kernel
theorem d_X12_told_20 : decode (yB m_X12_told) 20 = .ok (.iconst 1, 1) := by decide +kernel
theorem d_X12_told_21 : decode (yB m_X12_told) 21 = .ok (.invokevirtual 214, 3) := by decide +kernel
theorem d_X12_told_24 : decode (yB m_X12_told) 24 = .ok (.ifCond .eq 5, 3) := by decide +kernel
theorem d_X12_told_27 : decode (yB m_X12_told) 27 = .ok (.iconst 0, 1) := by decide +kernel
theorem d_X12_told_28 : decode (yB m_X12_told) 28 = .ok (.ireturn, 1) := by decide +kernel
theorem d_X12_told_29 : decode (yB m_X12_told) 29 = .ok (.iload_n 1, 1) := by decide +kernel
theorem d_X12_told_30 : decode (yB m_X12_told) 30 = .ok (.ifCond .ne 10, 3) := by decide +kernel
theorem d_X12_told_33 : decode (yB m_X12_told) 33 = .ok (.aload_n 0, 1) := by decide +kernel
theorem d_X12_told_34 : decode (yB m_X12_told) 34 = .ok (.getfield 224, 3) := by decide +kernel
theorem d_X12_told_37 : decode (yB m_X12_told) 37 = .ok (.goto 55, 3) := by decide +kernel
theorem d_X12_told_40 : decode (yB m_X12_told) 40 = .ok (.iload_n 1, 1) := by decide +kernel
theorem d_X12_told_41 : decode (yB m_X12_told) 41 = .ok (.iconst 1, 1) := by decide +kernel
theorem d_X12_told_42 : decode (yB m_X12_told) 42 = .ok (.if_icmp .ne 10, 3) := by decide +kernel
theorem d_X12_told_45 : decode (yB m_X12_told) 45 = .ok (.aload_n 0, 1) := by decide +kernel
theorem d_X12_told_46 : decode (yB m_X12_told) 46 = .ok (.getfield 17, 3) := by decide +kernel
theorem d_X12_told_49 : decode (yB m_X12_told) 49 = .ok (.goto 43, 3) := by decide +kernel
theorem d_X12_told_52 : decode (yB m_X12_told) 52 = .ok (.iload_n 1, 1) := by decide +kernel
theorem d_X12_told_53 : decode (yB m_X12_told) 53 = .ok (.iconst 2, 1) := by decide +kernel
theorem d_X12_told_54 : decode (yB m_X12_told) 54 = .ok (.if_icmp .ne 10, 3) := by decide +kernel
theorem d_X12_told_57 : decode (yB m_X12_told) 57 = .ok (.aload_n 0, 1) := by decide +kernel
theorem d_X12_told_58 : decode (yB m_X12_told) 58 = .ok (.getfield 20, 3) := by decide +kernel
theorem d_X12_told_61 : decode (yB m_X12_told) 61 = .ok (.goto 31, 3) := by decide +kernel
theorem d_X12_told_64 : decode (yB m_X12_told) 64 = .ok (.iload_n 1, 1) := by decide +kernel
theorem d_X12_told_65 : decode (yB m_X12_told) 65 = .ok (.iconst 3, 1) := by decide +kernel
theorem d_X12_told_66 : decode (yB m_X12_told) 66 = .ok (.if_icmp .ne 10, 3) := by decide +kernel
theorem d_X12_told_69 : decode (yB m_X12_told) 69 = .ok (.aload_n 0, 1) := by decide +kernel
theorem d_X12_told_70 : decode (yB m_X12_told) 70 = .ok (.getfield 227, 3) := by decide +kernel
theorem d_X12_told_73 : decode (yB m_X12_told) 73 = .ok (.goto 19, 3) := by decide +kernel
theorem d_X12_told_76 : decode (yB m_X12_told) 76 = .ok (.iload_n 1, 1) := by decide +kernel
theorem d_X12_told_77 : decode (yB m_X12_told) 77 = .ok (.iconst 4, 1) := by decide +kernel
theorem d_X12_told_78 : decode (yB m_X12_told) 78 = .ok (.if_icmp .ne 10, 3) := by decide +kernel
theorem d_X12_told_81 : decode (yB m_X12_told) 81 = .ok (.aload_n 0, 1) := by decide +kernel
theorem d_X12_told_82 : decode (yB m_X12_told) 82 = .ok (.getfield 49, 3) := by decide +kernel
theorem d_X12_told_85 : decode (yB m_X12_told) 85 = .ok (.goto 7, 3) := by decide +kernel
theorem d_X12_told_88 : decode (yB m_X12_told) 88 = .ok (.aload_n 0, 1) := by decide +kernel
theorem d_X12_told_89 : decode (yB m_X12_told) 89 = .ok (.getfield 230, 3) := by decide +kernel
theorem d_X12_told_92 : decode (yB m_X12_told) 92 = .ok (.ireturn, 1) := by decide +kernel
def fn_X12_told_20 (v1 : Int32) (w1 : Int32) (D : zD) : Option (Int32 × zD) := (fn_X12_bad w1 (1 : Int32) D).bind fun q4 => (if q4.1 = 0 then ((if v1 = 0 then ((some ((gI q4.2 102 16), q4.2))) else ((if v1 = (1 : Int32) then ((some ((gI q4.2 102 14), q4.2))) else ((if v1 = (2 : Int32) then ((some ((gI q4.2 102 15), q4.2))) else ((if v1 = (3 : Int32) then ((some ((gI q4.2 102 17), q4.2))) else ((if v1 = (4 : Int32) then ((some ((gI q4.2 102 26), q4.2))) else ((some ((gI q4.2 102 34), q4.2))))))))))))) else ((some ((0 : Int32), q4.2))))
def fn_X12_told (v1 : Int32) (D : zD) : Option (Int32 × zD) := zlet (sI D 102 0 (0 : Int32)) fun D1 => (fn_X12_in v1 (0 : Int32) (5 : Int32)).bind fun x2 => (if x2 = 0 then ((fn_X12_told_20 v1 (1 : Int32) D1)) else ((fn_X12_told_20 v1 (0 : Int32) D1)))
theorem s_X12_told_20 {X : zX} {Sh : zSh} {d : Nat} (hst : (zl X).stackTraces = false) (h0 : zSh0 Sh) (hd : 1 ≤ d) {v1 : Int32} (w1 : Int32) (D : zD)  : Rn X m_X12_told (d + 1) 20 [(0, .ref 102), (1, .int v1)] [.int w1, .ref 102] (Sh, D) ((oI Sh) (fn_X12_told_20 v1 w1 D)) := by
  rw [fn_X12_told_20]
  refine r_iconst (pc := 20) (1 : Int32) d_X12_told_20 rfl ?_
  refine q_cI (f := (oI Sh)) (av := [.ref 102, .int w1, .int (1 : Int32)]) (st := []) (z_runV ck_X12_bad rfl ml_X12_214 ci_X12_bad cv_X12_bad (K_102 h0) (ci := 12) rfl rfl (Nat.le_of_ble_eq_true rfl) d_X12_told_21) (s_X12_bad hst h0 (by omega)) kp_I (fun q4 _ => ?_)
  refine r_if_eq (f := (oI Sh)) (pc := 24) 29 d_X12_told_24 (by decide) (fun c5 => ?_) (fun c5 => ?_)
  · refine r_iload_n (pc := 29) 1 d_X12_told_29 rfl rfl ?_
    refine r_if_ne (f := (oI Sh)) (pc := 30) 40 d_X12_told_30 (by decide) (fun c6 => ?_) (fun c6 => ?_)
    · refine r_iload_n (pc := 40) 1 d_X12_told_40 rfl rfl ?_
      refine r_iconst (pc := 41) (1 : Int32) d_X12_told_41 rfl ?_
      refine r_icmp_ne (f := (oI Sh)) (pc := 42) 52 d_X12_told_42 (by decide) (fun c7 => ?_) (fun c7 => ?_)
      · refine r_iload_n (pc := 52) 1 d_X12_told_52 rfl rfl ?_
        refine r_iconst (pc := 53) (2 : Int32) d_X12_told_53 rfl ?_
        refine r_icmp_ne (f := (oI Sh)) (pc := 54) 64 d_X12_told_54 (by decide) (fun c8 => ?_) (fun c8 => ?_)
        · refine r_iload_n (pc := 64) 1 d_X12_told_64 rfl rfl ?_
          refine r_iconst (pc := 65) (3 : Int32) d_X12_told_65 rfl ?_
          refine r_icmp_ne (f := (oI Sh)) (pc := 66) 76 d_X12_told_66 (by decide) (fun c9 => ?_) (fun c9 => ?_)
          · refine r_iload_n (pc := 76) 1 d_X12_told_76 rfl rfl ?_
            refine r_iconst (pc := 77) (4 : Int32) d_X12_told_77 rfl ?_
            refine r_icmp_ne (f := (oI Sh)) (pc := 78) 88 d_X12_told_78 (by decide) (fun c10 => ?_) (fun c10 => ?_)
            · refine r_aload_n (pc := 88) 0 d_X12_told_88 rfl rfl ?_
              refine q_gI (pc := 89) g_X12_230 (K_102 h0) rfl d_X12_told_89 ?_
              exact r_iret (pc := 92) rfl d_X12_told_92
            · refine r_aload_n (pc := 81) 0 d_X12_told_81 rfl rfl ?_
              refine q_gI (pc := 82) g_X12_49 (K_102 h0) rfl d_X12_told_82 ?_
              refine r_goto (pc := 85) 92 d_X12_told_85 (by decide) ?_
              exact r_iret (pc := 92) rfl d_X12_told_92
          · refine r_aload_n (pc := 69) 0 d_X12_told_69 rfl rfl ?_
            refine q_gI (pc := 70) g_X12_227 (K_102 h0) rfl d_X12_told_70 ?_
            refine r_goto (pc := 73) 92 d_X12_told_73 (by decide) ?_
            exact r_iret (pc := 92) rfl d_X12_told_92
        · refine r_aload_n (pc := 57) 0 d_X12_told_57 rfl rfl ?_
          refine q_gI (pc := 58) g_X12_20 (K_102 h0) rfl d_X12_told_58 ?_
          refine r_goto (pc := 61) 92 d_X12_told_61 (by decide) ?_
          exact r_iret (pc := 92) rfl d_X12_told_92
      · refine r_aload_n (pc := 45) 0 d_X12_told_45 rfl rfl ?_
        refine q_gI (pc := 46) g_X12_17 (K_102 h0) rfl d_X12_told_46 ?_
        refine r_goto (pc := 49) 92 d_X12_told_49 (by decide) ?_
        exact r_iret (pc := 92) rfl d_X12_told_92
    · refine r_aload_n (pc := 33) 0 d_X12_told_33 rfl rfl ?_
      refine q_gI (pc := 34) g_X12_224 (K_102 h0) rfl d_X12_told_34 ?_
      refine r_goto (pc := 37) 92 d_X12_told_37 (by decide) ?_
      exact r_iret (pc := 92) rfl d_X12_told_92
  · refine r_iconst (pc := 27) (0 : Int32) d_X12_told_27 rfl ?_
    exact r_iret (pc := 28) rfl d_X12_told_28
theorem s_X12_told {X : zX} {Sh : zSh} {d : Nat} (hst : (zl X).stackTraces = false) (h0 : zSh0 Sh) (hd : 2 ≤ d) {v1 : Int32} {D : zD} : Sd X m_X12_told d [.ref 102, .int v1] (Sh, D) ((oI Sh) (fn_X12_told v1 D)) := by
  obtain ⟨d, rfl⟩ : ∃ e, d = e + 1 := ⟨d - 1, by omega⟩
  replace hd : 1 ≤ d := by omega
  refine z_body ck_X12_told rfl (Nat.le_of_ble_eq_true rfl) rfl hst ?_
  rw [fn_X12_told]
  show Rn X m_X12_told (d + 1) 0 [(0, .ref 102), (1, .int v1)] [] (Sh, D) _
  refine r_aload_n (pc := 0) 0 d_X12_told_0 rfl rfl ?_
  refine r_iconst (pc := 1) (0 : Int32) d_X12_told_1 rfl ?_
  refine r_putI (pc := 2) p_X12_113 (K_102 h0) rfl (Or.inl rfl) d_X12_told_2 ?_
  refine r_letD (f := (oI Sh)) (fun D1 => ?_)
  refine r_aload_n (pc := 5) 0 d_X12_told_5 rfl rfl ?_
  refine r_iload_n (pc := 6) 1 d_X12_told_6 rfl rfl ?_
  refine r_iconst (pc := 7) (0 : Int32) d_X12_told_7 rfl ?_
  refine r_iconst (pc := 8) (5 : Int32) d_X12_told_8 rfl ?_
  refine q_cP (f := (oI Sh)) (av := [.int v1, .int (0 : Int32), .int (5 : Int32)]) (st := [.ref 102]) (z_runS ck_X12_in rfl ml_X12_147 cs_X12_in rfl (Nat.le_of_ble_eq_true rfl) d_X12_told_9) (s_X12_in hst h0 (by omega)) kp_I (fun x2 _ => ?_)
  refine r_if_ne (f := (oI Sh)) (pc := 12) 19 d_X12_told_12 (by decide) (fun c3 => ?_) (fun c3 => ?_)
  · refine r_iconst (pc := 19) (0 : Int32) d_X12_told_19 rfl ?_
    refine r_pick [0, 1] (ls' := [(0, .ref 102), (1, .int v1)]) rfl ?_
    exact s_X12_told_20 hst h0 hd (0 : Int32) D1
  · refine r_iconst (pc := 15) (1 : Int32) d_X12_told_15 rfl ?_
    refine r_goto (pc := 16) 20 d_X12_told_16 (by decide) ?_
    refine r_pick [0, 1] (ls' := [(0, .ref 102), (1, .int v1)]) rfl ?_
    exact s_X12_told_20 hst h0 hd (1 : Int32) D1
/-! CoveredSignsModel.isSign -/
theorem d_X12_isSign_0 : decode (yB m_X12_isSign) 0 = .ok (.iload_n 1, 1) := by decide +kernel
theorem d_X12_isSign_1 : decode (yB m_X12_isSign) 1 = .ok (.iconst 0, 1) := by decide +kernel
theorem d_X12_isSign_2 : decode (yB m_X12_isSign) 2 = .ok (.aload_n 0, 1) := by decide +kernel
theorem d_X12_isSign_3 : decode (yB m_X12_isSign) 3 = .ok (.getfield 224, 3) := by decide +kernel
theorem d_X12_isSign_6 : decode (yB m_X12_isSign) 6 = .ok (.iconst 1, 1) := by decide +kernel
theorem d_X12_isSign_7 : decode (yB m_X12_isSign) 7 = .ok (.isub, 1) := by decide +kernel
theorem d_X12_isSign_8 : decode (yB m_X12_isSign) 8 = .ok (.invokestatic 147, 3) := by decide +kernel
theorem d_X12_isSign_11 : decode (yB m_X12_isSign) 11 = .ok (.ireturn, 1) := by decide +kernel
def fn_X12_isSign (v1 : Int32) (D : zD) : Option Int32 := (fn_X12_in v1 (0 : Int32) ((gI D 102 16) - (1 : Int32))).bind fun x1 => zcb x1 <| (some x1)
theorem s_X12_isSign {X : zX} {Sh : zSh} {d : Nat} (hst : (zl X).stackTraces = false) (h0 : zSh0 Sh) (hd : 2 ≤ d) {v1 : Int32} {D : zD} : Sd X m_X12_isSign d [.ref 102, .int v1] (Sh, D) ((oP Sh D) (fn_X12_isSign v1 D)) := by
  obtain ⟨d, rfl⟩ : ∃ e, d = e + 1 := ⟨d - 1, by omega⟩
  replace hd : 1 ≤ d := by omega
  refine z_body ck_X12_isSign rfl (Nat.le_of_ble_eq_true rfl) rfl hst ?_
  rw [fn_X12_isSign]
  show Rn X m_X12_isSign (d + 1) 0 [(0, .ref 102), (1, .int v1)] [] (Sh, D) _
  refine r_iload_n (pc := 0) 1 d_X12_isSign_0 rfl rfl ?_
  refine r_iconst (pc := 1) (0 : Int32) d_X12_isSign_1 rfl ?_
  refine r_aload_n (pc := 2) 0 d_X12_isSign_2 rfl rfl ?_
  refine q_gI (pc := 3) g_X12_224 (K_102 h0) rfl d_X12_isSign_3 ?_
  refine r_iconst (pc := 6) (1 : Int32) d_X12_isSign_6 rfl ?_
  refine r_isub (pc := 7) d_X12_isSign_7 ?_
  refine q_cP (f := (oP Sh D)) (av := [.int v1, .int (0 : Int32), .int ((gI D 102 16) - (1 : Int32))]) (st := []) (z_runS ck_X12_in rfl ml_X12_147 cs_X12_in rfl (Nat.le_of_ble_eq_true rfl) d_X12_isSign_8) (s_X12_in hst h0 (by omega)) kp_P (fun x1 _ => ?_)
  refine r_cb (f := (oP Sh D)) rfl (fun hb2 => ?_)
  exact r_zret (pc := 11) rfl hb2 d_X12_isSign_11
/-! CoveredSignsModel.sign -/
theorem d_X12_sign_0 : decode (yB m_X12_sign) 0 = .ok (.aload_n 0, 1) := by decide +kernel
theorem d_X12_sign_1 : decode (yB m_X12_sign) 1 = .ok (.iconst 0, 1) := by decide +kernel
theorem d_X12_sign_2 : decode (yB m_X12_sign) 2 = .ok (.putfield 113, 3) := by decide +kernel
theorem d_X12_sign_5 : decode (yB m_X12_sign) 5 = .ok (.aload_n 0, 1) := by decide +kernel
theorem d_X12_sign_6 : decode (yB m_X12_sign) 6 = .ok (.aload_n 0, 1) := by decide +kernel
theorem d_X12_sign_7 : decode (yB m_X12_sign) 7 = .ok (.iload_n 1, 1) := by decide +kernel
theorem d_X12_sign_8 : decode (yB m_X12_sign) 8 = .ok (.invokevirtual 296, 3) := by decide +kernel
theorem d_X12_sign_11 : decode (yB m_X12_sign) 11 = .ok (.ifCond .ne 7, 3) := by decide +kernel
theorem d_X12_sign_14 : decode (yB m_X12_sign) 14 = .ok (.iconst 1, 1) := by decide +kernel
theorem d_X12_sign_15 : decode (yB m_X12_sign) 15 = .ok (.goto 4, 3) := by decide +kernel
theorem d_X12_sign_18 : decode (yB m_X12_sign) 18 = .ok (.iconst 0, 1) := by decide +kernel
theorem d_X12_sign_19 : decode (yB m_X12_sign) 19 = .ok (.iconst 1, 1) := by decide +kernel
theorem d_X12_sign_20 : decode (yB m_X12_sign) 20 = .ok (.invokevirtual 214, 3) := by decide +kernel
theorem d_X12_sign_23 : decode (yB m_X12_sign) 23 = .ok (.ifCond .eq 5, 3) := by decide +kernel
theorem d_X12_sign_26 : decode (yB m_X12_sign) 26 = .ok (.iconst 0, 1) := by decide +kernel
theorem d_X12_sign_27 : decode (yB m_X12_sign) 27 = .ok (.ireturn, 1) := by decide +kernel
theorem d_X12_sign_28 : decode (yB m_X12_sign) 28 = .ok (.aload_n 0, 1) := by decide +kernel
theorem d_X12_sign_29 : decode (yB m_X12_sign) 29 = .ok (.getfield 26, 3) := by decide +kernel
theorem d_X12_sign_32 : decode (yB m_X12_sign) 32 = .ok (.iload_n 1, 1) := by decide +kernel
theorem d_X12_sign_33 : decode (yB m_X12_sign) 33 = .ok (.iaload, 1) := by decide +kernel
theorem d_X12_sign_34 : decode (yB m_X12_sign) 34 = .ok (.ireturn, 1) := by decide +kernel
def fn_X12_sign_19 (v1 : Int32) (w1 : Int32) (D : zD) : Option (Int32 × zD) := (fn_X12_bad w1 (1 : Int32) D).bind fun q4 => (if q4.1 = 0 then (zck v1 12 <| (some ((gI q4.2 105 v1.toNatClampNeg), q4.2))) else ((some ((0 : Int32), q4.2))))
def fn_X12_sign (v1 : Int32) (D : zD) : Option (Int32 × zD) := zlet (sI D 102 0 (0 : Int32)) fun D1 => (fn_X12_isSign v1 D1).bind fun x2 => (if x2 = 0 then ((fn_X12_sign_19 v1 (1 : Int32) D1)) else ((fn_X12_sign_19 v1 (0 : Int32) D1)))
theorem s_X12_sign_19 {X : zX} {Sh : zSh} {d : Nat} (hst : (zl X).stackTraces = false) (h0 : zSh0 Sh) (hd : 2 ≤ d) {v1 : Int32} (w1 : Int32) (D : zD)  : Rn X m_X12_sign (d + 1) 19 [(0, .ref 102), (1, .int v1)] [.int w1, .ref 102] (Sh, D) ((oI Sh) (fn_X12_sign_19 v1 w1 D)) := by
  rw [fn_X12_sign_19]
  refine r_iconst (pc := 19) (1 : Int32) d_X12_sign_19 rfl ?_
  refine q_cI (f := (oI Sh)) (av := [.ref 102, .int w1, .int (1 : Int32)]) (st := []) (z_runV ck_X12_bad rfl ml_X12_214 ci_X12_bad cv_X12_bad (K_102 h0) (ci := 12) rfl rfl (Nat.le_of_ble_eq_true rfl) d_X12_sign_20) (s_X12_bad hst h0 (by omega)) kp_I (fun q4 _ => ?_)
  refine r_if_eq (f := (oI Sh)) (pc := 23) 28 d_X12_sign_23 (by decide) (fun c5 => ?_) (fun c5 => ?_)
  · refine r_aload_n (pc := 28) 0 d_X12_sign_28 rfl rfl ?_
    refine r_getR (pc := 29) g_X12_26 (K_102 h0) rfl (R_102_19 h0) d_X12_sign_29 ?_
    refine r_iload_n (pc := 32) 1 d_X12_sign_32 rfl rfl ?_
    refine r_ck (f := (oI Sh)) rfl (fun hc6 => ?_)
    refine q_iald (pc := 33) (j := v1.toNatClampNeg) (K_105 h0) hc6 rfl d_X12_sign_33 ?_
    exact r_iret (pc := 34) rfl d_X12_sign_34
  · refine r_iconst (pc := 26) (0 : Int32) d_X12_sign_26 rfl ?_
    exact r_iret (pc := 27) rfl d_X12_sign_27
theorem s_X12_sign {X : zX} {Sh : zSh} {d : Nat} (hst : (zl X).stackTraces = false) (h0 : zSh0 Sh) (hd : 3 ≤ d) {v1 : Int32} {D : zD} : Sd X m_X12_sign d [.ref 102, .int v1] (Sh, D) ((oI Sh) (fn_X12_sign v1 D)) := by
  obtain ⟨d, rfl⟩ : ∃ e, d = e + 1 := ⟨d - 1, by omega⟩
  replace hd : 2 ≤ d := by omega
  refine z_body ck_X12_sign rfl (Nat.le_of_ble_eq_true rfl) rfl hst ?_
  rw [fn_X12_sign]
  show Rn X m_X12_sign (d + 1) 0 [(0, .ref 102), (1, .int v1)] [] (Sh, D) _
  refine r_aload_n (pc := 0) 0 d_X12_sign_0 rfl rfl ?_
  refine r_iconst (pc := 1) (0 : Int32) d_X12_sign_1 rfl ?_
  refine r_putI (pc := 2) p_X12_113 (K_102 h0) rfl (Or.inl rfl) d_X12_sign_2 ?_
  refine r_letD (f := (oI Sh)) (fun D1 => ?_)
  refine r_aload_n (pc := 5) 0 d_X12_sign_5 rfl rfl ?_
  refine r_aload_n (pc := 6) 0 d_X12_sign_6 rfl rfl ?_
  refine r_iload_n (pc := 7) 1 d_X12_sign_7 rfl rfl ?_
  refine q_cP (f := (oI Sh)) (av := [.ref 102, .int v1]) (st := [.ref 102]) (z_runV ck_X12_isSign rfl ml_X12_296 ci_X12_isSign cv_X12_isSign (K_102 h0) (ci := 12) rfl rfl (Nat.le_of_ble_eq_true rfl) d_X12_sign_8) (s_X12_isSign hst h0 (by omega)) kp_I (fun x2 _ => ?_)
  refine r_if_ne (f := (oI Sh)) (pc := 11) 18 d_X12_sign_11 (by decide) (fun c3 => ?_) (fun c3 => ?_)
  · refine r_iconst (pc := 18) (0 : Int32) d_X12_sign_18 rfl ?_
    refine r_pick [0, 1] (ls' := [(0, .ref 102), (1, .int v1)]) rfl ?_
    exact s_X12_sign_19 hst h0 hd (0 : Int32) D1
  · refine r_iconst (pc := 14) (1 : Int32) d_X12_sign_14 rfl ?_
    refine r_goto (pc := 15) 19 d_X12_sign_15 (by decide) ?_
    refine r_pick [0, 1] (ls' := [(0, .ref 102), (1, .int v1)]) rfl ?_
    exact s_X12_sign_19 hst h0 hd (1 : Int32) D1
/-! CoveredSignsModel.family -/
theorem d_X12_family_0 : decode (yB m_X12_family) 0 = .ok (.aload_n 0, 1) := by decide +kernel
theorem d_X12_family_1 : decode (yB m_X12_family) 1 = .ok (.iconst 0, 1) := by decide +kernel
theorem d_X12_family_2 : decode (yB m_X12_family) 2 = .ok (.putfield 113, 3) := by decide +kernel
theorem d_X12_family_5 : decode (yB m_X12_family) 5 = .ok (.aload_n 0, 1) := by decide +kernel
theorem d_X12_family_6 : decode (yB m_X12_family) 6 = .ok (.aload_n 0, 1) := by decide +kernel
theorem d_X12_family_7 : decode (yB m_X12_family) 7 = .ok (.iload_n 1, 1) := by decide +kernel
theorem d_X12_family_8 : decode (yB m_X12_family) 8 = .ok (.invokevirtual 296, 3) := by decide +kernel
theorem d_X12_family_11 : decode (yB m_X12_family) 11 = .ok (.ifCond .ne 7, 3) := by decide +kernel
theorem d_X12_family_14 : decode (yB m_X12_family) 14 = .ok (.iconst 1, 1) := by decide +kernel
theorem d_X12_family_15 : decode (yB m_X12_family) 15 = .ok (.goto 4, 3) := by decide +kernel
theorem d_X12_family_18 : decode (yB m_X12_family) 18 = .ok (.iconst 0, 1) := by decide +kernel
theorem d_X12_family_19 : decode (yB m_X12_family) 19 = .ok (.iconst 1, 1) := by decide +kernel
theorem d_X12_family_20 : decode (yB m_X12_family) 20 = .ok (.invokevirtual 214, 3) := by decide +kernel
theorem d_X12_family_23 : decode (yB m_X12_family) 23 = .ok (.ifCond .eq 5, 3) := by decide +kernel
theorem d_X12_family_26 : decode (yB m_X12_family) 26 = .ok (.iconst 0, 1) := by decide +kernel
theorem d_X12_family_27 : decode (yB m_X12_family) 27 = .ok (.ireturn, 1) := by decide +kernel
theorem d_X12_family_28 : decode (yB m_X12_family) 28 = .ok (.aload_n 0, 1) := by decide +kernel
theorem d_X12_family_29 : decode (yB m_X12_family) 29 = .ok (.getfield 32, 3) := by decide +kernel
theorem d_X12_family_32 : decode (yB m_X12_family) 32 = .ok (.iload_n 1, 1) := by decide +kernel
theorem d_X12_family_33 : decode (yB m_X12_family) 33 = .ok (.iaload, 1) := by decide +kernel
theorem d_X12_family_34 : decode (yB m_X12_family) 34 = .ok (.ireturn, 1) := by decide +kernel
def fn_X12_family_19 (v1 : Int32) (w1 : Int32) (D : zD) : Option (Int32 × zD) := (fn_X12_bad w1 (1 : Int32) D).bind fun q4 => (if q4.1 = 0 then (zck v1 12 <| (some ((gI q4.2 107 v1.toNatClampNeg), q4.2))) else ((some ((0 : Int32), q4.2))))
def fn_X12_family (v1 : Int32) (D : zD) : Option (Int32 × zD) := zlet (sI D 102 0 (0 : Int32)) fun D1 => (fn_X12_isSign v1 D1).bind fun x2 => (if x2 = 0 then ((fn_X12_family_19 v1 (1 : Int32) D1)) else ((fn_X12_family_19 v1 (0 : Int32) D1)))
theorem s_X12_family_19 {X : zX} {Sh : zSh} {d : Nat} (hst : (zl X).stackTraces = false) (h0 : zSh0 Sh) (hd : 2 ≤ d) {v1 : Int32} (w1 : Int32) (D : zD)  : Rn X m_X12_family (d + 1) 19 [(0, .ref 102), (1, .int v1)] [.int w1, .ref 102] (Sh, D) ((oI Sh) (fn_X12_family_19 v1 w1 D)) := by
  rw [fn_X12_family_19]
  refine r_iconst (pc := 19) (1 : Int32) d_X12_family_19 rfl ?_
  refine q_cI (f := (oI Sh)) (av := [.ref 102, .int w1, .int (1 : Int32)]) (st := []) (z_runV ck_X12_bad rfl ml_X12_214 ci_X12_bad cv_X12_bad (K_102 h0) (ci := 12) rfl rfl (Nat.le_of_ble_eq_true rfl) d_X12_family_20) (s_X12_bad hst h0 (by omega)) kp_I (fun q4 _ => ?_)
  refine r_if_eq (f := (oI Sh)) (pc := 23) 28 d_X12_family_23 (by decide) (fun c5 => ?_) (fun c5 => ?_)
  · refine r_aload_n (pc := 28) 0 d_X12_family_28 rfl rfl ?_
    refine r_getR (pc := 29) g_X12_32 (K_102 h0) rfl (R_102_21 h0) d_X12_family_29 ?_
    refine r_iload_n (pc := 32) 1 d_X12_family_32 rfl rfl ?_
    refine r_ck (f := (oI Sh)) rfl (fun hc6 => ?_)
    refine q_iald (pc := 33) (j := v1.toNatClampNeg) (K_107 h0) hc6 rfl d_X12_family_33 ?_
    exact r_iret (pc := 34) rfl d_X12_family_34
  · refine r_iconst (pc := 26) (0 : Int32) d_X12_family_26 rfl ?_
    exact r_iret (pc := 27) rfl d_X12_family_27
theorem s_X12_family {X : zX} {Sh : zSh} {d : Nat} (hst : (zl X).stackTraces = false) (h0 : zSh0 Sh) (hd : 3 ≤ d) {v1 : Int32} {D : zD} : Sd X m_X12_family d [.ref 102, .int v1] (Sh, D) ((oI Sh) (fn_X12_family v1 D)) := by
  obtain ⟨d, rfl⟩ : ∃ e, d = e + 1 := ⟨d - 1, by omega⟩
  replace hd : 2 ≤ d := by omega
  refine z_body ck_X12_family rfl (Nat.le_of_ble_eq_true rfl) rfl hst ?_
  rw [fn_X12_family]
  show Rn X m_X12_family (d + 1) 0 [(0, .ref 102), (1, .int v1)] [] (Sh, D) _
  refine r_aload_n (pc := 0) 0 d_X12_family_0 rfl rfl ?_
  refine r_iconst (pc := 1) (0 : Int32) d_X12_family_1 rfl ?_
  refine r_putI (pc := 2) p_X12_113 (K_102 h0) rfl (Or.inl rfl) d_X12_family_2 ?_
  refine r_letD (f := (oI Sh)) (fun D1 => ?_)
  refine r_aload_n (pc := 5) 0 d_X12_family_5 rfl rfl ?_
  refine r_aload_n (pc := 6) 0 d_X12_family_6 rfl rfl ?_
  refine r_iload_n (pc := 7) 1 d_X12_family_7 rfl rfl ?_
  refine q_cP (f := (oI Sh)) (av := [.ref 102, .int v1]) (st := [.ref 102]) (z_runV ck_X12_isSign rfl ml_X12_296 ci_X12_isSign cv_X12_isSign (K_102 h0) (ci := 12) rfl rfl (Nat.le_of_ble_eq_true rfl) d_X12_family_8) (s_X12_isSign hst h0 (by omega)) kp_I (fun x2 _ => ?_)
  refine r_if_ne (f := (oI Sh)) (pc := 11) 18 d_X12_family_11 (by decide) (fun c3 => ?_) (fun c3 => ?_)
  · refine r_iconst (pc := 18) (0 : Int32) d_X12_family_18 rfl ?_
    refine r_pick [0, 1] (ls' := [(0, .ref 102), (1, .int v1)]) rfl ?_
    exact s_X12_family_19 hst h0 hd (0 : Int32) D1
  · refine r_iconst (pc := 14) (1 : Int32) d_X12_family_14 rfl ?_
    refine r_goto (pc := 15) 19 d_X12_family_15 (by decide) ?_
    refine r_pick [0, 1] (ls' := [(0, .ref 102), (1, .int v1)]) rfl ?_
    exact s_X12_family_19 hst h0 hd (1 : Int32) D1
/-! CoveredSignsModel.word -/
theorem d_X12_word_0 : decode (yB m_X12_word) 0 = .ok (.aload_n 0, 1) := by decide +kernel
theorem d_X12_word_1 : decode (yB m_X12_word) 1 = .ok (.iconst 0, 1) := by decide +kernel
theorem d_X12_word_2 : decode (yB m_X12_word) 2 = .ok (.putfield 113, 3) := by decide +kernel
theorem d_X12_word_5 : decode (yB m_X12_word) 5 = .ok (.aload_n 0, 1) := by decide +kernel
theorem d_X12_word_6 : decode (yB m_X12_word) 6 = .ok (.iload_n 1, 1) := by decide +kernel
theorem d_X12_word_7 : decode (yB m_X12_word) 7 = .ok (.iconst 0, 1) := by decide +kernel
theorem d_X12_word_8 : decode (yB m_X12_word) 8 = .ok (.aload_n 0, 1) := by decide +kernel
theorem d_X12_word_9 : decode (yB m_X12_word) 9 = .ok (.getfield 227, 3) := by decide +kernel
theorem d_X12_word_12 : decode (yB m_X12_word) 12 = .ok (.iconst 1, 1) := by decide +kernel
theorem d_X12_word_13 : decode (yB m_X12_word) 13 = .ok (.isub, 1) := by decide +kernel
theorem d_X12_word_14 : decode (yB m_X12_word) 14 = .ok (.invokestatic 147, 3) := by decide +kernel
theorem d_X12_word_17 : decode (yB m_X12_word) 17 = .ok (.ifCond .ne 7, 3) := by decide +kernel
theorem d_X12_word_20 : decode (yB m_X12_word) 20 = .ok (.iconst 1, 1) := by decide +kernel
theorem d_X12_word_21 : decode (yB m_X12_word) 21 = .ok (.goto 4, 3) := by decide +kernel
theorem d_X12_word_24 : decode (yB m_X12_word) 24 = .ok (.iconst 0, 1) := by decide +kernel
theorem d_X12_word_25 : decode (yB m_X12_word) 25 = .ok (.iconst 1, 1) := by decide +kernel
theorem d_X12_word_26 : decode (yB m_X12_word) 26 = .ok (.invokevirtual 214, 3) := by decide +kernel
theorem d_X12_word_29 : decode (yB m_X12_word) 29 = .ok (.ifCond .ne 25, 3) := by decide +kernel
theorem d_X12_word_32 : decode (yB m_X12_word) 32 = .ok (.aload_n 0, 1) := by decide +kernel
theorem d_X12_word_33 : decode (yB m_X12_word) 33 = .ok (.iload_n 2, 1) := by decide +kernel
theorem d_X12_word_34 : decode (yB m_X12_word) 34 = .ok (.iconst 0, 1) := by decide +kernel
theorem d_X12_word_35 : decode (yB m_X12_word) 35 = .ok (.iconst 5, 1) := by decide +kernel
theorem d_X12_word_36 : decode (yB m_X12_word) 36 = .ok (.invokestatic 147, 3) := by decide +kernel
theorem d_X12_word_39 : decode (yB m_X12_word) 39 = .ok (.ifCond .ne 7, 3) := by decide +kernel
theorem d_X12_word_42 : decode (yB m_X12_word) 42 = .ok (.iconst 1, 1) := by decide +kernel
theorem d_X12_word_43 : decode (yB m_X12_word) 43 = .ok (.goto 4, 3) := by decide +kernel
theorem d_X12_word_46 : decode (yB m_X12_word) 46 = .ok (.iconst 0, 1) := by decide +kernel
theorem d_X12_word_47 : decode (yB m_X12_word) 47 = .ok (.iconst 2, 1) := by decide +kernel
theorem d_X12_word_48 : decode (yB m_X12_word) 48 = .ok (.invokevirtual 214, 3) := by decide +kernel
theorem d_X12_word_51 : decode (yB m_X12_word) 51 = .ok (.ifCond .eq 5, 3) := by decide +kernel
theorem d_X12_word_54 : decode (yB m_X12_word) 54 = .ok (.iconst 0, 1) := by decide +kernel
theorem d_X12_word_55 : decode (yB m_X12_word) 55 = .ok (.ireturn, 1) := by decide +kernel
theorem d_X12_word_56 : decode (yB m_X12_word) 56 = .ok (.iload_n 2, 1) := by decide +kernel
theorem d_X12_word_57 : decode (yB m_X12_word) 57 = .ok (.aload_n 0, 1) := by decide +kernel
theorem d_X12_word_58 : decode (yB m_X12_word) 58 = .ok (.getfield 38, 3) := by decide +kernel
theorem d_X12_word_61 : decode (yB m_X12_word) 61 = .ok (.iload_n 1, 1) := by decide +kernel
theorem d_X12_word_62 : decode (yB m_X12_word) 62 = .ok (.iaload, 1) := by decide +kernel
theorem d_X12_word_63 : decode (yB m_X12_word) 63 = .ok (.if_icmp .ge 14, 3) := by decide +kernel
theorem d_X12_word_66 : decode (yB m_X12_word) 66 = .ok (.aload_n 0, 1) := by decide +kernel
theorem d_X12_word_67 : decode (yB m_X12_word) 67 = .ok (.getfield 46, 3) := by decide +kernel
theorem d_X12_word_70 : decode (yB m_X12_word) 70 = .ok (.iload_n 1, 1) := by decide +kernel
theorem d_X12_word_71 : decode (yB m_X12_word) 71 = .ok (.aaload, 1) := by decide +kernel
theorem d_X12_word_72 : decode (yB m_X12_word) 72 = .ok (.iload_n 2, 1) := by decide +kernel
theorem d_X12_word_73 : decode (yB m_X12_word) 73 = .ok (.iaload, 1) := by decide +kernel
theorem d_X12_word_74 : decode (yB m_X12_word) 74 = .ok (.goto 4, 3) := by decide +kernel
theorem d_X12_word_77 : decode (yB m_X12_word) 77 = .ok (.iconst (-1), 1) := by decide +kernel
theorem d_X12_word_78 : decode (yB m_X12_word) 78 = .ok (.ireturn, 1) := by decide +kernel
def fn_X12_word_47 (v1 : Int32) (v2 : Int32) (w1 : Int32) (D : zD) : Option (Int32 × zD) := (fn_X12_bad w1 (2 : Int32) D).bind fun q8 => (if q8.1 = 0 then (zck v1 8 <| (if (gI q8.2 109 v1.toNatClampNeg) ≤ v2 then ((some ((-1 : Int32), q8.2))) else (zck v1 8 <| zck v2 6 <| (some ((gI q8.2 (120 + v1.toNatClampNeg) v2.toNatClampNeg), q8.2))))) else ((some ((0 : Int32), q8.2))))
def fn_X12_word_25 (v1 : Int32) (v2 : Int32) (w1 : Int32) (D : zD) : Option (Int32 × zD) := (fn_X12_bad w1 (1 : Int32) D).bind fun q4 => (if q4.1 = 0 then ((fn_X12_in v2 (0 : Int32) (5 : Int32)).bind fun x6 => (if x6 = 0 then ((fn_X12_word_47 v1 v2 (1 : Int32) q4.2)) else ((fn_X12_word_47 v1 v2 (0 : Int32) q4.2)))) else ((some ((0 : Int32), q4.2))))
def fn_X12_word (v1 : Int32) (v2 : Int32) (D : zD) : Option (Int32 × zD) := zlet (sI D 102 0 (0 : Int32)) fun D1 => (fn_X12_in v1 (0 : Int32) ((gI D1 102 17) - (1 : Int32))).bind fun x2 => (if x2 = 0 then ((fn_X12_word_25 v1 v2 (1 : Int32) D1)) else ((fn_X12_word_25 v1 v2 (0 : Int32) D1)))
theorem s_X12_word_47 {X : zX} {Sh : zSh} {d : Nat} (hst : (zl X).stackTraces = false) (h0 : zSh0 Sh) (hd : 1 ≤ d) {v1 : Int32} {v2 : Int32} (w1 : Int32) (D : zD)  : Rn X m_X12_word (d + 1) 47 [(0, .ref 102), (1, .int v1), (2, .int v2)] [.int w1, .ref 102] (Sh, D) ((oI Sh) (fn_X12_word_47 v1 v2 w1 D)) := by
  rw [fn_X12_word_47]
  refine r_iconst (pc := 47) (2 : Int32) d_X12_word_47 rfl ?_
  refine q_cI (f := (oI Sh)) (av := [.ref 102, .int w1, .int (2 : Int32)]) (st := []) (z_runV ck_X12_bad rfl ml_X12_214 ci_X12_bad cv_X12_bad (K_102 h0) (ci := 12) rfl rfl (Nat.le_of_ble_eq_true rfl) d_X12_word_48) (s_X12_bad hst h0 (by omega)) kp_I (fun q8 _ => ?_)
  refine r_if_eq (f := (oI Sh)) (pc := 51) 56 d_X12_word_51 (by decide) (fun c9 => ?_) (fun c9 => ?_)
  · refine r_iload_n (pc := 56) 2 d_X12_word_56 rfl rfl ?_
    refine r_aload_n (pc := 57) 0 d_X12_word_57 rfl rfl ?_
    refine r_getR (pc := 58) g_X12_38 (K_102 h0) rfl (R_102_23 h0) d_X12_word_58 ?_
    refine r_iload_n (pc := 61) 1 d_X12_word_61 rfl rfl ?_
    refine r_ck (f := (oI Sh)) rfl (fun hc10 => ?_)
    refine q_iald (pc := 62) (j := v1.toNatClampNeg) (K_109 h0) hc10 rfl d_X12_word_62 ?_
    refine r_icmp_ge (f := (oI Sh)) (pc := 63) 77 d_X12_word_63 (by decide) (fun c11 => ?_) (fun c11 => ?_)
    · refine r_iconst (pc := 77) (-1 : Int32) d_X12_word_77 rfl ?_
      exact r_iret (pc := 78) rfl d_X12_word_78
    · refine r_aload_n (pc := 66) 0 d_X12_word_66 rfl rfl ?_
      refine r_getR (pc := 67) g_X12_46 (K_102 h0) rfl (R_102_25 h0) d_X12_word_67 ?_
      refine r_iload_n (pc := 70) 1 d_X12_word_70 rfl rfl ?_
      refine r_ck (f := (oI Sh)) rfl (fun hc12 => ?_)
      refine q_aald (pc := 71) (j := v1.toNatClampNeg) (K_119 h0) (Or.inl ⟨rfl, rfl⟩) hc12 rfl (RW_119 h0 _ (z_lt hc12)) d_X12_word_71 ?_
      refine r_iload_n (pc := 72) 2 d_X12_word_72 rfl rfl ?_
      refine r_ck (f := (oI Sh)) rfl (fun hc13 => ?_)
      refine q_iald (pc := 73) (j := v2.toNatClampNeg) (RK_119 h0 _ (z_lt hc12)) hc13 rfl d_X12_word_73 ?_
      refine r_goto (pc := 74) 78 d_X12_word_74 (by decide) ?_
      exact r_iret (pc := 78) rfl d_X12_word_78
  · refine r_iconst (pc := 54) (0 : Int32) d_X12_word_54 rfl ?_
    exact r_iret (pc := 55) rfl d_X12_word_55
theorem s_X12_word_25 {X : zX} {Sh : zSh} {d : Nat} (hst : (zl X).stackTraces = false) (h0 : zSh0 Sh) (hd : 1 ≤ d) {v1 : Int32} {v2 : Int32} (w1 : Int32) (D : zD)  : Rn X m_X12_word (d + 1) 25 [(0, .ref 102), (1, .int v1), (2, .int v2)] [.int w1, .ref 102] (Sh, D) ((oI Sh) (fn_X12_word_25 v1 v2 w1 D)) := by
  rw [fn_X12_word_25]
  refine r_iconst (pc := 25) (1 : Int32) d_X12_word_25 rfl ?_
  refine q_cI (f := (oI Sh)) (av := [.ref 102, .int w1, .int (1 : Int32)]) (st := []) (z_runV ck_X12_bad rfl ml_X12_214 ci_X12_bad cv_X12_bad (K_102 h0) (ci := 12) rfl rfl (Nat.le_of_ble_eq_true rfl) d_X12_word_26) (s_X12_bad hst h0 (by omega)) kp_I (fun q4 _ => ?_)
  refine r_if_ne (f := (oI Sh)) (pc := 29) 54 d_X12_word_29 (by decide) (fun c5 => ?_) (fun c5 => ?_)
  · refine r_iconst (pc := 54) (0 : Int32) d_X12_word_54 rfl ?_
    exact r_iret (pc := 55) rfl d_X12_word_55
  · refine r_aload_n (pc := 32) 0 d_X12_word_32 rfl rfl ?_
    refine r_iload_n (pc := 33) 2 d_X12_word_33 rfl rfl ?_
    refine r_iconst (pc := 34) (0 : Int32) d_X12_word_34 rfl ?_
    refine r_iconst (pc := 35) (5 : Int32) d_X12_word_35 rfl ?_
    refine q_cP (f := (oI Sh)) (av := [.int v2, .int (0 : Int32), .int (5 : Int32)]) (st := [.ref 102]) (z_runS ck_X12_in rfl ml_X12_147 cs_X12_in rfl (Nat.le_of_ble_eq_true rfl) d_X12_word_36) (s_X12_in hst h0 (by omega)) kp_I (fun x6 _ => ?_)
    refine r_if_ne (f := (oI Sh)) (pc := 39) 46 d_X12_word_39 (by decide) (fun c7 => ?_) (fun c7 => ?_)
    · refine r_iconst (pc := 46) (0 : Int32) d_X12_word_46 rfl ?_
      refine r_pick [0, 1, 2] (ls' := [(0, .ref 102), (1, .int v1), (2, .int v2)]) rfl ?_
      exact s_X12_word_47 hst h0 hd (0 : Int32) q4.2
    · refine r_iconst (pc := 42) (1 : Int32) d_X12_word_42 rfl ?_
      refine r_goto (pc := 43) 47 d_X12_word_43 (by decide) ?_
      refine r_pick [0, 1, 2] (ls' := [(0, .ref 102), (1, .int v1), (2, .int v2)]) rfl ?_
      exact s_X12_word_47 hst h0 hd (1 : Int32) q4.2
theorem s_X12_word {X : zX} {Sh : zSh} {d : Nat} (hst : (zl X).stackTraces = false) (h0 : zSh0 Sh) (hd : 2 ≤ d) {v1 : Int32} {v2 : Int32} {D : zD} : Sd X m_X12_word d [.ref 102, .int v1, .int v2] (Sh, D) ((oI Sh) (fn_X12_word v1 v2 D)) := by
  obtain ⟨d, rfl⟩ : ∃ e, d = e + 1 := ⟨d - 1, by omega⟩
  replace hd : 1 ≤ d := by omega
  refine z_body ck_X12_word rfl (Nat.le_of_ble_eq_true rfl) rfl hst ?_
  rw [fn_X12_word]
  show Rn X m_X12_word (d + 1) 0 [(0, .ref 102), (1, .int v1), (2, .int v2)] [] (Sh, D) _
  refine r_aload_n (pc := 0) 0 d_X12_word_0 rfl rfl ?_
  refine r_iconst (pc := 1) (0 : Int32) d_X12_word_1 rfl ?_
  refine r_putI (pc := 2) p_X12_113 (K_102 h0) rfl (Or.inl rfl) d_X12_word_2 ?_
  refine r_letD (f := (oI Sh)) (fun D1 => ?_)
  refine r_aload_n (pc := 5) 0 d_X12_word_5 rfl rfl ?_
  refine r_iload_n (pc := 6) 1 d_X12_word_6 rfl rfl ?_
  refine r_iconst (pc := 7) (0 : Int32) d_X12_word_7 rfl ?_
  refine r_aload_n (pc := 8) 0 d_X12_word_8 rfl rfl ?_
  refine q_gI (pc := 9) g_X12_227 (K_102 h0) rfl d_X12_word_9 ?_
  refine r_iconst (pc := 12) (1 : Int32) d_X12_word_12 rfl ?_
  refine r_isub (pc := 13) d_X12_word_13 ?_
  refine q_cP (f := (oI Sh)) (av := [.int v1, .int (0 : Int32), .int ((gI D1 102 17) - (1 : Int32))]) (st := [.ref 102]) (z_runS ck_X12_in rfl ml_X12_147 cs_X12_in rfl (Nat.le_of_ble_eq_true rfl) d_X12_word_14) (s_X12_in hst h0 (by omega)) kp_I (fun x2 _ => ?_)
  refine r_if_ne (f := (oI Sh)) (pc := 17) 24 d_X12_word_17 (by decide) (fun c3 => ?_) (fun c3 => ?_)
  · refine r_iconst (pc := 24) (0 : Int32) d_X12_word_24 rfl ?_
    refine r_pick [0, 1, 2] (ls' := [(0, .ref 102), (1, .int v1), (2, .int v2)]) rfl ?_
    exact s_X12_word_25 hst h0 hd (0 : Int32) D1
  · refine r_iconst (pc := 20) (1 : Int32) d_X12_word_20 rfl ?_
    refine r_goto (pc := 21) 25 d_X12_word_21 (by decide) ?_
    refine r_pick [0, 1, 2] (ls' := [(0, .ref 102), (1, .int v1), (2, .int v2)]) rfl ?_
    exact s_X12_word_25 hst h0 hd (1 : Int32) D1
/-! CoveredSignsModel.isCover -/
theorem d_X12_isCover_0 : decode (yB m_X12_isCover) 0 = .ok (.iload_n 1, 1) := by decide +kernel
theorem d_X12_isCover_1 : decode (yB m_X12_isCover) 1 = .ok (.iconst 0, 1) := by decide +kernel
theorem d_X12_isCover_2 : decode (yB m_X12_isCover) 2 = .ok (.aload_n 0, 1) := by decide +kernel
theorem d_X12_isCover_3 : decode (yB m_X12_isCover) 3 = .ok (.getfield 49, 3) := by decide +kernel
theorem d_X12_isCover_6 : decode (yB m_X12_isCover) 6 = .ok (.iconst 1, 1) := by decide +kernel
theorem d_X12_isCover_7 : decode (yB m_X12_isCover) 7 = .ok (.isub, 1) := by decide +kernel
theorem d_X12_isCover_8 : decode (yB m_X12_isCover) 8 = .ok (.invokestatic 147, 3) := by decide +kernel
theorem d_X12_isCover_11 : decode (yB m_X12_isCover) 11 = .ok (.ireturn, 1) := by decide +kernel
def fn_X12_isCover (v1 : Int32) (D : zD) : Option Int32 := (fn_X12_in v1 (0 : Int32) ((gI D 102 26) - (1 : Int32))).bind fun x1 => zcb x1 <| (some x1)
theorem s_X12_isCover {X : zX} {Sh : zSh} {d : Nat} (hst : (zl X).stackTraces = false) (h0 : zSh0 Sh) (hd : 2 ≤ d) {v1 : Int32} {D : zD} : Sd X m_X12_isCover d [.ref 102, .int v1] (Sh, D) ((oP Sh D) (fn_X12_isCover v1 D)) := by
  obtain ⟨d, rfl⟩ : ∃ e, d = e + 1 := ⟨d - 1, by omega⟩
  replace hd : 1 ≤ d := by omega
  refine z_body ck_X12_isCover rfl (Nat.le_of_ble_eq_true rfl) rfl hst ?_
  rw [fn_X12_isCover]
  show Rn X m_X12_isCover (d + 1) 0 [(0, .ref 102), (1, .int v1)] [] (Sh, D) _
  refine r_iload_n (pc := 0) 1 d_X12_isCover_0 rfl rfl ?_
  refine r_iconst (pc := 1) (0 : Int32) d_X12_isCover_1 rfl ?_
  refine r_aload_n (pc := 2) 0 d_X12_isCover_2 rfl rfl ?_
  refine q_gI (pc := 3) g_X12_49 (K_102 h0) rfl d_X12_isCover_3 ?_
  refine r_iconst (pc := 6) (1 : Int32) d_X12_isCover_6 rfl ?_
  refine r_isub (pc := 7) d_X12_isCover_7 ?_
  refine q_cP (f := (oP Sh D)) (av := [.int v1, .int (0 : Int32), .int ((gI D 102 26) - (1 : Int32))]) (st := []) (z_runS ck_X12_in rfl ml_X12_147 cs_X12_in rfl (Nat.le_of_ble_eq_true rfl) d_X12_isCover_8) (s_X12_in hst h0 (by omega)) kp_P (fun x1 _ => ?_)
  refine r_cb (f := (oP Sh D)) rfl (fun hb2 => ?_)
  exact r_zret (pc := 11) rfl hb2 d_X12_isCover_11
/-! CoveredSignsModel.cover -/
theorem d_X12_cover_0 : decode (yB m_X12_cover) 0 = .ok (.aload_n 0, 1) := by decide +kernel
theorem d_X12_cover_1 : decode (yB m_X12_cover) 1 = .ok (.iconst 0, 1) := by decide +kernel
theorem d_X12_cover_2 : decode (yB m_X12_cover) 2 = .ok (.putfield 113, 3) := by decide +kernel
theorem d_X12_cover_5 : decode (yB m_X12_cover) 5 = .ok (.aload_n 0, 1) := by decide +kernel
theorem d_X12_cover_6 : decode (yB m_X12_cover) 6 = .ok (.aload_n 0, 1) := by decide +kernel
theorem d_X12_cover_7 : decode (yB m_X12_cover) 7 = .ok (.iload_n 1, 1) := by decide +kernel
theorem d_X12_cover_8 : decode (yB m_X12_cover) 8 = .ok (.invokevirtual 299, 3) := by decide +kernel
theorem d_X12_cover_11 : decode (yB m_X12_cover) 11 = .ok (.ifCond .ne 7, 3) := by decide +kernel
theorem d_X12_cover_14 : decode (yB m_X12_cover) 14 = .ok (.iconst 1, 1) := by decide +kernel
theorem d_X12_cover_15 : decode (yB m_X12_cover) 15 = .ok (.goto 4, 3) := by decide +kernel
theorem d_X12_cover_18 : decode (yB m_X12_cover) 18 = .ok (.iconst 0, 1) := by decide +kernel
theorem d_X12_cover_19 : decode (yB m_X12_cover) 19 = .ok (.iconst 1, 1) := by decide +kernel
theorem d_X12_cover_20 : decode (yB m_X12_cover) 20 = .ok (.invokevirtual 214, 3) := by decide +kernel
theorem d_X12_cover_23 : decode (yB m_X12_cover) 23 = .ok (.ifCond .eq 5, 3) := by decide +kernel
theorem d_X12_cover_26 : decode (yB m_X12_cover) 26 = .ok (.iconst 0, 1) := by decide +kernel
theorem d_X12_cover_27 : decode (yB m_X12_cover) 27 = .ok (.ireturn, 1) := by decide +kernel
theorem d_X12_cover_28 : decode (yB m_X12_cover) 28 = .ok (.aload_n 0, 1) := by decide +kernel
theorem d_X12_cover_29 : decode (yB m_X12_cover) 29 = .ok (.getfield 52, 3) := by decide +kernel
theorem d_X12_cover_32 : decode (yB m_X12_cover) 32 = .ok (.iload_n 1, 1) := by decide +kernel
theorem d_X12_cover_33 : decode (yB m_X12_cover) 33 = .ok (.iaload, 1) := by decide +kernel
theorem d_X12_cover_34 : decode (yB m_X12_cover) 34 = .ok (.ireturn, 1) := by decide +kernel
def fn_X12_cover_19 (v1 : Int32) (w1 : Int32) (D : zD) : Option (Int32 × zD) := (fn_X12_bad w1 (1 : Int32) D).bind fun q4 => (if q4.1 = 0 then (zck v1 500 <| (some ((gI q4.2 128 v1.toNatClampNeg), q4.2))) else ((some ((0 : Int32), q4.2))))
def fn_X12_cover (v1 : Int32) (D : zD) : Option (Int32 × zD) := zlet (sI D 102 0 (0 : Int32)) fun D1 => (fn_X12_isCover v1 D1).bind fun x2 => (if x2 = 0 then ((fn_X12_cover_19 v1 (1 : Int32) D1)) else ((fn_X12_cover_19 v1 (0 : Int32) D1)))
theorem s_X12_cover_19 {X : zX} {Sh : zSh} {d : Nat} (hst : (zl X).stackTraces = false) (h0 : zSh0 Sh) (hd : 2 ≤ d) {v1 : Int32} (w1 : Int32) (D : zD)  : Rn X m_X12_cover (d + 1) 19 [(0, .ref 102), (1, .int v1)] [.int w1, .ref 102] (Sh, D) ((oI Sh) (fn_X12_cover_19 v1 w1 D)) := by
  rw [fn_X12_cover_19]
  refine r_iconst (pc := 19) (1 : Int32) d_X12_cover_19 rfl ?_
  refine q_cI (f := (oI Sh)) (av := [.ref 102, .int w1, .int (1 : Int32)]) (st := []) (z_runV ck_X12_bad rfl ml_X12_214 ci_X12_bad cv_X12_bad (K_102 h0) (ci := 12) rfl rfl (Nat.le_of_ble_eq_true rfl) d_X12_cover_20) (s_X12_bad hst h0 (by omega)) kp_I (fun q4 _ => ?_)
  refine r_if_eq (f := (oI Sh)) (pc := 23) 28 d_X12_cover_23 (by decide) (fun c5 => ?_) (fun c5 => ?_)
  · refine r_aload_n (pc := 28) 0 d_X12_cover_28 rfl rfl ?_
    refine r_getR (pc := 29) g_X12_52 (K_102 h0) rfl (R_102_28 h0) d_X12_cover_29 ?_
    refine r_iload_n (pc := 32) 1 d_X12_cover_32 rfl rfl ?_
    refine r_ck (f := (oI Sh)) rfl (fun hc6 => ?_)
    refine q_iald (pc := 33) (j := v1.toNatClampNeg) (K_128 h0) hc6 rfl d_X12_cover_33 ?_
    exact r_iret (pc := 34) rfl d_X12_cover_34
  · refine r_iconst (pc := 26) (0 : Int32) d_X12_cover_26 rfl ?_
    exact r_iret (pc := 27) rfl d_X12_cover_27
theorem s_X12_cover {X : zX} {Sh : zSh} {d : Nat} (hst : (zl X).stackTraces = false) (h0 : zSh0 Sh) (hd : 3 ≤ d) {v1 : Int32} {D : zD} : Sd X m_X12_cover d [.ref 102, .int v1] (Sh, D) ((oI Sh) (fn_X12_cover v1 D)) := by
  obtain ⟨d, rfl⟩ : ∃ e, d = e + 1 := ⟨d - 1, by omega⟩
  replace hd : 2 ≤ d := by omega
  refine z_body ck_X12_cover rfl (Nat.le_of_ble_eq_true rfl) rfl hst ?_
  rw [fn_X12_cover]
  show Rn X m_X12_cover (d + 1) 0 [(0, .ref 102), (1, .int v1)] [] (Sh, D) _
  refine r_aload_n (pc := 0) 0 d_X12_cover_0 rfl rfl ?_
  refine r_iconst (pc := 1) (0 : Int32) d_X12_cover_1 rfl ?_
  refine r_putI (pc := 2) p_X12_113 (K_102 h0) rfl (Or.inl rfl) d_X12_cover_2 ?_
  refine r_letD (f := (oI Sh)) (fun D1 => ?_)
  refine r_aload_n (pc := 5) 0 d_X12_cover_5 rfl rfl ?_
  refine r_aload_n (pc := 6) 0 d_X12_cover_6 rfl rfl ?_
  refine r_iload_n (pc := 7) 1 d_X12_cover_7 rfl rfl ?_
  refine q_cP (f := (oI Sh)) (av := [.ref 102, .int v1]) (st := [.ref 102]) (z_runV ck_X12_isCover rfl ml_X12_299 ci_X12_isCover cv_X12_isCover (K_102 h0) (ci := 12) rfl rfl (Nat.le_of_ble_eq_true rfl) d_X12_cover_8) (s_X12_isCover hst h0 (by omega)) kp_I (fun x2 _ => ?_)
  refine r_if_ne (f := (oI Sh)) (pc := 11) 18 d_X12_cover_11 (by decide) (fun c3 => ?_) (fun c3 => ?_)
  · refine r_iconst (pc := 18) (0 : Int32) d_X12_cover_18 rfl ?_
    refine r_pick [0, 1] (ls' := [(0, .ref 102), (1, .int v1)]) rfl ?_
    exact s_X12_cover_19 hst h0 hd (0 : Int32) D1
  · refine r_iconst (pc := 14) (1 : Int32) d_X12_cover_14 rfl ?_
    refine r_goto (pc := 15) 19 d_X12_cover_15 (by decide) ?_
    refine r_pick [0, 1] (ls' := [(0, .ref 102), (1, .int v1)]) rfl ?_
    exact s_X12_cover_19 hst h0 hd (1 : Int32) D1
/-! CoveredSignsModel.dirt -/
theorem d_X12_dirt_0 : decode (yB m_X12_dirt) 0 = .ok (.aload_n 0, 1) := by decide +kernel
theorem d_X12_dirt_1 : decode (yB m_X12_dirt) 1 = .ok (.iconst 0, 1) := by decide +kernel
theorem d_X12_dirt_2 : decode (yB m_X12_dirt) 2 = .ok (.putfield 113, 3) := by decide +kernel
theorem d_X12_dirt_5 : decode (yB m_X12_dirt) 5 = .ok (.aload_n 0, 1) := by decide +kernel
theorem d_X12_dirt_6 : decode (yB m_X12_dirt) 6 = .ok (.iload_n 1, 1) := by decide +kernel
theorem d_X12_dirt_7 : decode (yB m_X12_dirt) 7 = .ok (.iconst 0, 1) := by decide +kernel
theorem d_X12_dirt_8 : decode (yB m_X12_dirt) 8 = .ok (.iconst 3, 1) := by decide +kernel
theorem d_X12_dirt_9 : decode (yB m_X12_dirt) 9 = .ok (.invokestatic 147, 3) := by decide +kernel
theorem d_X12_dirt_12 : decode (yB m_X12_dirt) 12 = .ok (.ifCond .ne 7, 3) := by decide +kernel
theorem d_X12_dirt_15 : decode (yB m_X12_dirt) 15 = .ok (.iconst 1, 1) := by decide +kernel
theorem d_X12_dirt_16 : decode (yB m_X12_dirt) 16 = .ok (.goto 4, 3) := by decide +kernel
theorem d_X12_dirt_19 : decode (yB m_X12_dirt) 19 = .ok (.iconst 0, 1) := by decide +kernel
theorem d_X12_dirt_20 : decode (yB m_X12_dirt) 20 = .ok (.iconst 1, 1) := by decide +kernel
theorem d_X12_dirt_21 : decode (yB m_X12_dirt) 21 = .ok (.invokevirtual 214, 3) := by decide +kernel
theorem d_X12_dirt_24 : decode (yB m_X12_dirt) 24 = .ok (.ifCond .eq 5, 3) := by decide +kernel
theorem d_X12_dirt_27 : decode (yB m_X12_dirt) 27 = .ok (.iconst 0, 1) := by decide +kernel
theorem d_X12_dirt_28 : decode (yB m_X12_dirt) 28 = .ok (.ireturn, 1) := by decide +kernel
theorem d_X12_dirt_29 : decode (yB m_X12_dirt) 29 = .ok (.aload_n 0, 1) := by decide +kernel
theorem d_X12_dirt_30 : decode (yB m_X12_dirt) 30 = .ok (.getfield 230, 3) := by decide +kernel
theorem d_X12_dirt_33 : decode (yB m_X12_dirt) 33 = .ok (.istore_n 2, 1) := by decide +kernel
theorem d_X12_dirt_34 : decode (yB m_X12_dirt) 34 = .ok (.aload_n 0, 1) := by decide +kernel
theorem d_X12_dirt_35 : decode (yB m_X12_dirt) 35 = .ok (.iload_n 1, 1) := by decide +kernel
theorem d_X12_dirt_36 : decode (yB m_X12_dirt) 36 = .ok (.putfield 230, 3) := by decide +kernel
theorem d_X12_dirt_39 : decode (yB m_X12_dirt) 39 = .ok (.iload_n 2, 1) := by decide +kernel
theorem d_X12_dirt_40 : decode (yB m_X12_dirt) 40 = .ok (.ireturn, 1) := by decide +kernel
def fn_X12_dirt_20 (v1 : Int32) (w1 : Int32) (D : zD) : Option (Int32 × zD) := (fn_X12_bad w1 (1 : Int32) D).bind fun q4 => (if q4.1 = 0 then (zlet (gI q4.2 102 34) fun x6 => zlet (sI q4.2 102 34 v1) fun D7 => (some (x6, D7))) else ((some ((0 : Int32), q4.2))))
def fn_X12_dirt (v1 : Int32) (D : zD) : Option (Int32 × zD) := zlet (sI D 102 0 (0 : Int32)) fun D1 => (fn_X12_in v1 (0 : Int32) (3 : Int32)).bind fun x2 => (if x2 = 0 then ((fn_X12_dirt_20 v1 (1 : Int32) D1)) else ((fn_X12_dirt_20 v1 (0 : Int32) D1)))
theorem s_X12_dirt_20 {X : zX} {Sh : zSh} {d : Nat} (hst : (zl X).stackTraces = false) (h0 : zSh0 Sh) (hd : 1 ≤ d) {v1 : Int32} (w1 : Int32) (D : zD)  : Rn X m_X12_dirt (d + 1) 20 [(0, .ref 102), (1, .int v1)] [.int w1, .ref 102] (Sh, D) ((oI Sh) (fn_X12_dirt_20 v1 w1 D)) := by
  rw [fn_X12_dirt_20]
  refine r_iconst (pc := 20) (1 : Int32) d_X12_dirt_20 rfl ?_
  refine q_cI (f := (oI Sh)) (av := [.ref 102, .int w1, .int (1 : Int32)]) (st := []) (z_runV ck_X12_bad rfl ml_X12_214 ci_X12_bad cv_X12_bad (K_102 h0) (ci := 12) rfl rfl (Nat.le_of_ble_eq_true rfl) d_X12_dirt_21) (s_X12_bad hst h0 (by omega)) kp_I (fun q4 _ => ?_)
  refine r_if_eq (f := (oI Sh)) (pc := 24) 29 d_X12_dirt_24 (by decide) (fun c5 => ?_) (fun c5 => ?_)
  · refine r_aload_n (pc := 29) 0 d_X12_dirt_29 rfl rfl ?_
    refine q_gI (pc := 30) g_X12_230 (K_102 h0) rfl d_X12_dirt_30 ?_
    refine r_leti (f := (oI Sh)) (fun x6 => ?_)
    refine r_istore_n (pc := 33) (ls' := [(2, .int x6), (0, .ref 102), (1, .int v1)]) d_X12_dirt_33 rfl (Nat.le_of_ble_eq_true rfl) rfl ?_
    refine r_aload_n (pc := 34) 1 d_X12_dirt_34 rfl rfl ?_
    refine r_iload_n (pc := 35) 2 d_X12_dirt_35 rfl rfl ?_
    refine r_putI (pc := 36) p_X12_230 (K_102 h0) rfl (Or.inl rfl) d_X12_dirt_36 ?_
    refine r_letD (f := (oI Sh)) (fun D7 => ?_)
    refine r_iload_n (pc := 39) 0 d_X12_dirt_39 rfl rfl ?_
    exact r_iret (pc := 40) rfl d_X12_dirt_40
  · refine r_iconst (pc := 27) (0 : Int32) d_X12_dirt_27 rfl ?_
    exact r_iret (pc := 28) rfl d_X12_dirt_28
theorem s_X12_dirt {X : zX} {Sh : zSh} {d : Nat} (hst : (zl X).stackTraces = false) (h0 : zSh0 Sh) (hd : 2 ≤ d) {v1 : Int32} {D : zD} : Sd X m_X12_dirt d [.ref 102, .int v1] (Sh, D) ((oI Sh) (fn_X12_dirt v1 D)) := by
  obtain ⟨d, rfl⟩ : ∃ e, d = e + 1 := ⟨d - 1, by omega⟩
  replace hd : 1 ≤ d := by omega
  refine z_body ck_X12_dirt rfl (Nat.le_of_ble_eq_true rfl) rfl hst ?_
  rw [fn_X12_dirt]
  show Rn X m_X12_dirt (d + 1) 0 [(0, .ref 102), (1, .int v1)] [] (Sh, D) _
  refine r_aload_n (pc := 0) 0 d_X12_dirt_0 rfl rfl ?_
  refine r_iconst (pc := 1) (0 : Int32) d_X12_dirt_1 rfl ?_
  refine r_putI (pc := 2) p_X12_113 (K_102 h0) rfl (Or.inl rfl) d_X12_dirt_2 ?_
  refine r_letD (f := (oI Sh)) (fun D1 => ?_)
  refine r_aload_n (pc := 5) 0 d_X12_dirt_5 rfl rfl ?_
  refine r_iload_n (pc := 6) 1 d_X12_dirt_6 rfl rfl ?_
  refine r_iconst (pc := 7) (0 : Int32) d_X12_dirt_7 rfl ?_
  refine r_iconst (pc := 8) (3 : Int32) d_X12_dirt_8 rfl ?_
  refine q_cP (f := (oI Sh)) (av := [.int v1, .int (0 : Int32), .int (3 : Int32)]) (st := [.ref 102]) (z_runS ck_X12_in rfl ml_X12_147 cs_X12_in rfl (Nat.le_of_ble_eq_true rfl) d_X12_dirt_9) (s_X12_in hst h0 (by omega)) kp_I (fun x2 _ => ?_)
  refine r_if_ne (f := (oI Sh)) (pc := 12) 19 d_X12_dirt_12 (by decide) (fun c3 => ?_) (fun c3 => ?_)
  · refine r_iconst (pc := 19) (0 : Int32) d_X12_dirt_19 rfl ?_
    refine r_pick [0, 1] (ls' := [(0, .ref 102), (1, .int v1)]) rfl ?_
    exact s_X12_dirt_20 hst h0 hd (0 : Int32) D1
  · refine r_iconst (pc := 15) (1 : Int32) d_X12_dirt_15 rfl ?_
    refine r_goto (pc := 16) 20 d_X12_dirt_16 (by decide) ?_
    refine r_pick [0, 1] (ls' := [(0, .ref 102), (1, .int v1)]) rfl ?_
    exact s_X12_dirt_20 hst h0 hd (1 : Int32) D1
/-! CoveredSignsModel.firstCover -/
theorem d_X12_firstCover_0 : decode (yB m_X12_firstCover) 0 = .ok (.iconst 0, 1) := by decide +kernel
theorem d_X12_firstCover_1 : decode (yB m_X12_firstCover) 1 = .ok (.istore_n 3, 1) := by decide +kernel
theorem d_X12_firstCover_2 : decode (yB m_X12_firstCover) 2 = .ok (.iload_n 3, 1) := by decide +kernel
theorem d_X12_firstCover_3 : decode (yB m_X12_firstCover) 3 = .ok (.aload_n 0, 1) := by decide +kernel
theorem d_X12_firstCover_4 : decode (yB m_X12_firstCover) 4 = .ok (.getfield 49, 3) := by decide +kernel
theorem d_X12_firstCover_7 : decode (yB m_X12_firstCover) 7 = .ok (.if_icmp .ge 35, 3) := by decide +kernel
theorem d_X12_firstCover_10 : decode (yB m_X12_firstCover) 10 = .ok (.iload_n 1, 1) := by decide +kernel
theorem d_X12_firstCover_11 : decode (yB m_X12_firstCover) 11 = .ok (.iload_n 2, 1) := by decide +kernel
theorem d_X12_firstCover_12 : decode (yB m_X12_firstCover) 12 = .ok (.ixor, 1) := by decide +kernel
theorem d_X12_firstCover_13 : decode (yB m_X12_firstCover) 13 = .ok (.aload_n 0, 1) := by decide +kernel
theorem d_X12_firstCover_14 : decode (yB m_X12_firstCover) 14 = .ok (.getfield 52, 3) := by decide +kernel
theorem d_X12_firstCover_17 : decode (yB m_X12_firstCover) 17 = .ok (.iload_n 3, 1) := by decide +kernel
theorem d_X12_firstCover_18 : decode (yB m_X12_firstCover) 18 = .ok (.iaload, 1) := by decide +kernel
theorem d_X12_firstCover_19 : decode (yB m_X12_firstCover) 19 = .ok (.iconst (-1), 1) := by decide +kernel
theorem d_X12_firstCover_20 : decode (yB m_X12_firstCover) 20 = .ok (.ixor, 1) := by decide +kernel
theorem d_X12_firstCover_21 : decode (yB m_X12_firstCover) 21 = .ok (.iand, 1) := by decide +kernel
theorem d_X12_firstCover_22 : decode (yB m_X12_firstCover) 22 = .ok (.invokestatic 293, 3) := by decide +kernel
theorem d_X12_firstCover_25 : decode (yB m_X12_firstCover) 25 = .ok (.iconst 2, 1) := by decide +kernel
theorem d_X12_firstCover_26 : decode (yB m_X12_firstCover) 26 = .ok (.aload_n 0, 1) := by decide +kernel
theorem d_X12_firstCover_27 : decode (yB m_X12_firstCover) 27 = .ok (.getfield 230, 3) := by decide +kernel
theorem d_X12_firstCover_30 : decode (yB m_X12_firstCover) 30 = .ok (.imul, 1) := by decide +kernel
theorem d_X12_firstCover_31 : decode (yB m_X12_firstCover) 31 = .ok (.if_icmp .gt 5, 3) := by decide +kernel
theorem d_X12_firstCover_34 : decode (yB m_X12_firstCover) 34 = .ok (.iload_n 3, 1) := by decide +kernel
theorem d_X12_firstCover_35 : decode (yB m_X12_firstCover) 35 = .ok (.ireturn, 1) := by decide +kernel
theorem d_X12_firstCover_36 : decode (yB m_X12_firstCover) 36 = .ok (.iinc 3 1, 3) := by decide +kernel
theorem d_X12_firstCover_39 : decode (yB m_X12_firstCover) 39 = .ok (.goto (-37), 3) := by decide +kernel
theorem d_X12_firstCover_42 : decode (yB m_X12_firstCover) 42 = .ok (.iconst (-1), 1) := by decide +kernel
theorem d_X12_firstCover_43 : decode (yB m_X12_firstCover) 43 = .ok (.ireturn, 1) := by decide +kernel
def fn_X12_firstCover_2 (v1 : Int32) (v2 : Int32) (D : zD) : Nat → Int32 → Option Int32
  | 0, _ => none
  | n + 1, v3 => (if (gI D 102 26) ≤ v3 then ((some (-1 : Int32))) else (zck v3 500 <| (fn_X12_ones ((v1 ^^^ v2) &&& ((gI D 128 v3.toNatClampNeg) ^^^ (-1 : Int32)))).bind fun x3 => (if ((2 : Int32) * (gI D 102 34)) < x3 then (((fn_X12_firstCover_2 v1 v2 D n) (v3 + (1 : Int32)))) else ((some v3)))))
def fn_X12_firstCover (v1 : Int32) (v2 : Int32) (D : zD) : Option Int32 := (fn_X12_firstCover_2 v1 v2 D zFU (0 : Int32))
theorem s_X12_firstCover_2 {X : zX} {Sh : zSh} {d : Nat} (hst : (zl X).stackTraces = false) (h0 : zSh0 Sh) (hd : 1 ≤ d) {v1 : Int32} {v2 : Int32} (D : zD) : ∀ (n : Nat) (v3 : Int32) , Rn X m_X12_firstCover (d + 1) 2 [(0, .ref 102), (1, .int v1), (2, .int v2), (3, .int v3)] [] (Sh, D) ((oP Sh D) (fn_X12_firstCover_2 v1 v2 D n v3)) := by
  intro n
  induction n with
  | zero => intro v3; exact Rn_none rfl
  | succ n hk2 =>
    intro v3
    rw [fn_X12_firstCover_2]
    refine r_iload_n (pc := 2) 3 d_X12_firstCover_2 rfl rfl ?_
    refine r_aload_n (pc := 3) 0 d_X12_firstCover_3 rfl rfl ?_
    refine q_gI (pc := 4) g_X12_49 (K_102 h0) rfl d_X12_firstCover_4 ?_
    refine r_icmp_ge (f := (oP Sh D)) (pc := 7) 42 d_X12_firstCover_7 (by decide) (fun c1 => ?_) (fun c1 => ?_)
    · refine r_iconst (pc := 42) (-1 : Int32) d_X12_firstCover_42 rfl ?_
      exact r_iret (pc := 43) rfl d_X12_firstCover_43
    · refine r_iload_n (pc := 10) 1 d_X12_firstCover_10 rfl rfl ?_
      refine r_iload_n (pc := 11) 2 d_X12_firstCover_11 rfl rfl ?_
      refine r_ixor (pc := 12) d_X12_firstCover_12 ?_
      refine r_aload_n (pc := 13) 0 d_X12_firstCover_13 rfl rfl ?_
      refine r_getR (pc := 14) g_X12_52 (K_102 h0) rfl (R_102_28 h0) d_X12_firstCover_14 ?_
      refine r_iload_n (pc := 17) 3 d_X12_firstCover_17 rfl rfl ?_
      refine r_ck (f := (oP Sh D)) rfl (fun hc2 => ?_)
      refine q_iald (pc := 18) (j := v3.toNatClampNeg) (K_128 h0) hc2 rfl d_X12_firstCover_18 ?_
      refine r_iconst (pc := 19) (-1 : Int32) d_X12_firstCover_19 rfl ?_
      refine r_ixor (pc := 20) d_X12_firstCover_20 ?_
      refine r_iand (pc := 21) d_X12_firstCover_21 ?_
      refine q_cP (f := (oP Sh D)) (av := [.int ((v1 ^^^ v2) &&& ((gI D 128 v3.toNatClampNeg) ^^^ (-1 : Int32)))]) (st := []) (z_runS ck_X12_ones rfl ml_X12_293 cs_X12_ones rfl (Nat.le_of_ble_eq_true rfl) d_X12_firstCover_22) (s_X12_ones hst h0 (by omega)) kp_P (fun x3 _ => ?_)
      refine r_iconst (pc := 25) (2 : Int32) d_X12_firstCover_25 rfl ?_
      refine r_aload_n (pc := 26) 0 d_X12_firstCover_26 rfl rfl ?_
      refine q_gI (pc := 27) g_X12_230 (K_102 h0) rfl d_X12_firstCover_27 ?_
      refine r_imul (pc := 30) d_X12_firstCover_30 ?_
      refine r_icmp_gt (f := (oP Sh D)) (pc := 31) 36 d_X12_firstCover_31 (by decide) (fun c4 => ?_) (fun c4 => ?_)
      · refine r_iinc (pc := 36) ((v3 + (1 : Int32))) 3 (ls' := [(3, .int (v3 + (1 : Int32))), (0, .ref 102), (1, .int v1), (2, .int v2)]) d_X12_firstCover_36 rfl rfl (Nat.le_of_ble_eq_true rfl) rfl ?_
        refine r_goto (pc := 39) 2 d_X12_firstCover_39 (by decide) ?_
        refine r_pick [1, 2, 3, 0] (ls' := [(0, .ref 102), (1, .int v1), (2, .int v2), (3, .int (v3 + (1 : Int32)))]) rfl ?_
        exact hk2 (v3 + (1 : Int32)) 
      · refine r_iload_n (pc := 34) 3 d_X12_firstCover_34 rfl rfl ?_
        exact r_iret (pc := 35) rfl d_X12_firstCover_35
theorem s_X12_firstCover {X : zX} {Sh : zSh} {d : Nat} (hst : (zl X).stackTraces = false) (h0 : zSh0 Sh) (hd : 2 ≤ d) {v1 : Int32} {v2 : Int32} {D : zD} : Sd X m_X12_firstCover d [.ref 102, .int v1, .int v2] (Sh, D) ((oP Sh D) (fn_X12_firstCover v1 v2 D)) := by
  obtain ⟨d, rfl⟩ : ∃ e, d = e + 1 := ⟨d - 1, by omega⟩
  replace hd : 1 ≤ d := by omega
  refine z_body ck_X12_firstCover rfl (Nat.le_of_ble_eq_true rfl) rfl hst ?_
  rw [fn_X12_firstCover]
  show Rn X m_X12_firstCover (d + 1) 0 [(0, .ref 102), (1, .int v1), (2, .int v2)] [] (Sh, D) _
  refine r_iconst (pc := 0) (0 : Int32) d_X12_firstCover_0 rfl ?_
  refine r_istore_n (pc := 1) (ls' := [(3, .int (0 : Int32)), (0, .ref 102), (1, .int v1), (2, .int v2)]) d_X12_firstCover_1 rfl (Nat.le_of_ble_eq_true rfl) rfl ?_
  refine r_pick [1, 2, 3, 0] (ls' := [(0, .ref 102), (1, .int v1), (2, .int v2), (3, .int (0 : Int32))]) rfl ?_
  exact s_X12_firstCover_2 hst h0 hd D zFU  (0 : Int32)
/-! CoveredSignsModel.confused -/
theorem d_X12_confused_0 : decode (yB m_X12_confused) 0 = .ok (.aload_n 0, 1) := by decide +kernel
theorem d_X12_confused_1 : decode (yB m_X12_confused) 1 = .ok (.iconst 0, 1) := by decide +kernel
theorem d_X12_confused_2 : decode (yB m_X12_confused) 2 = .ok (.putfield 113, 3) := by decide +kernel
theorem d_X12_confused_5 : decode (yB m_X12_confused) 5 = .ok (.aload_n 0, 1) := by decide +kernel
theorem d_X12_confused_6 : decode (yB m_X12_confused) 6 = .ok (.aload_n 0, 1) := by decide +kernel
theorem d_X12_confused_7 : decode (yB m_X12_confused) 7 = .ok (.iload_n 1, 1) := by decide +kernel
theorem d_X12_confused_8 : decode (yB m_X12_confused) 8 = .ok (.invokevirtual 296, 3) := by decide +kernel
theorem d_X12_confused_11 : decode (yB m_X12_confused) 11 = .ok (.ifCond .eq 11, 3) := by decide +kernel
theorem d_X12_confused_14 : decode (yB m_X12_confused) 14 = .ok (.aload_n 0, 1) := by decide +kernel
theorem d_X12_confused_15 : decode (yB m_X12_confused) 15 = .ok (.iload_n 2, 1) := by decide +kernel
theorem d_X12_confused_16 : decode (yB m_X12_confused) 16 = .ok (.invokevirtual 296, 3) := by decide +kernel
theorem d_X12_confused_19 : decode (yB m_X12_confused) 19 = .ok (.ifCond .ne 7, 3) := by decide +kernel
theorem d_X12_confused_22 : decode (yB m_X12_confused) 22 = .ok (.iconst 1, 1) := by decide +kernel
theorem d_X12_confused_23 : decode (yB m_X12_confused) 23 = .ok (.goto 4, 3) := by decide +kernel
theorem d_X12_confused_26 : decode (yB m_X12_confused) 26 = .ok (.iconst 0, 1) := by decide +kernel
theorem d_X12_confused_27 : decode (yB m_X12_confused) 27 = .ok (.iconst 1, 1) := by decide +kernel
theorem d_X12_confused_28 : decode (yB m_X12_confused) 28 = .ok (.invokevirtual 214, 3) := by decide +kernel
theorem d_X12_confused_31 : decode (yB m_X12_confused) 31 = .ok (.ifCond .ne 21, 3) := by decide +kernel
theorem d_X12_confused_34 : decode (yB m_X12_confused) 34 = .ok (.aload_n 0, 1) := by decide +kernel
theorem d_X12_confused_35 : decode (yB m_X12_confused) 35 = .ok (.iload_n 1, 1) := by decide +kernel
theorem d_X12_confused_36 : decode (yB m_X12_confused) 36 = .ok (.iload_n 2, 1) := by decide +kernel
theorem d_X12_confused_37 : decode (yB m_X12_confused) 37 = .ok (.if_icmp .ne 7, 3) := by decide +kernel
theorem d_X12_confused_40 : decode (yB m_X12_confused) 40 = .ok (.iconst 1, 1) := by decide +kernel
theorem d_X12_confused_41 : decode (yB m_X12_confused) 41 = .ok (.goto 4, 3) := by decide +kernel
theorem d_X12_confused_44 : decode (yB m_X12_confused) 44 = .ok (.iconst 0, 1) := by decide +kernel
theorem d_X12_confused_45 : decode (yB m_X12_confused) 45 = .ok (.iconst 2, 1) := by decide +kernel
theorem d_X12_confused_46 : decode (yB m_X12_confused) 46 = .ok (.invokevirtual 214, 3) := by decide +kernel
theorem d_X12_confused_49 : decode (yB m_X12_confused) 49 = .ok (.ifCond .eq 5, 3) := by decide +kernel
theorem d_X12_confused_52 : decode (yB m_X12_confused) 52 = .ok (.iconst 0, 1) := by decide +kernel
theorem d_X12_confused_53 : decode (yB m_X12_confused) 53 = .ok (.ireturn, 1) := by decide +kernel
theorem d_X12_confused_54 : decode (yB m_X12_confused) 54 = .ok (.aload_n 0, 1) := by decide +kernel
theorem d_X12_confused_55 : decode (yB m_X12_confused) 55 = .ok (.aload_n 0, 1) := by decide +kernel
theorem d_X12_confused_56 : decode (yB m_X12_confused) 56 = .ok (.getfield 26, 3) := by decide +kernel
theorem d_X12_confused_59 : decode (yB m_X12_confused) 59 = .ok (.iload_n 1, 1) := by decide +kernel
theorem d_X12_confused_60 : decode (yB m_X12_confused) 60 = .ok (.iaload, 1) := by decide +kernel
theorem d_X12_confused_61 : decode (yB m_X12_confused) 61 = .ok (.aload_n 0, 1) := by decide +kernel
theorem d_X12_confused_62 : decode (yB m_X12_confused) 62 = .ok (.getfield 26, 3) := by decide +kernel
theorem d_X12_confused_65 : decode (yB m_X12_confused) 65 = .ok (.iload_n 2, 1) := by decide +kernel
theorem d_X12_confused_66 : decode (yB m_X12_confused) 66 = .ok (.iaload, 1) := by decide +kernel
theorem d_X12_confused_67 : decode (yB m_X12_confused) 67 = .ok (.invokevirtual 302, 3) := by decide +kernel
theorem d_X12_confused_70 : decode (yB m_X12_confused) 70 = .ok (.ireturn, 1) := by decide +kernel
def fn_X12_confused_45 (v1 : Int32) (v2 : Int32) (w1 : Int32) (D : zD) : Option (Int32 × zD) := (fn_X12_bad w1 (2 : Int32) D).bind fun q7 => (if q7.1 = 0 then (zck v1 12 <| zck v2 12 <| (fn_X12_firstCover (gI q7.2 105 v1.toNatClampNeg) (gI q7.2 105 v2.toNatClampNeg) q7.2).bind fun x11 => (some (x11, q7.2))) else ((some ((0 : Int32), q7.2))))
def fn_X12_confused_27 (v1 : Int32) (v2 : Int32) (w1 : Int32) (D : zD) : Option (Int32 × zD) := (fn_X12_bad w1 (1 : Int32) D).bind fun q4 => (if q4.1 = 0 then ((if v1 = v2 then ((fn_X12_confused_45 v1 v2 (1 : Int32) q4.2)) else ((fn_X12_confused_45 v1 v2 (0 : Int32) q4.2)))) else ((some ((0 : Int32), q4.2))))
def fn_X12_confused_22 (v1 : Int32) (v2 : Int32) (D : zD) : Option (Int32 × zD) := (fn_X12_confused_27 v1 v2 (1 : Int32) D)
def fn_X12_confused (v1 : Int32) (v2 : Int32) (D : zD) : Option (Int32 × zD) := zlet (sI D 102 0 (0 : Int32)) fun D1 => (fn_X12_isSign v1 D1).bind fun x2 => (if x2 = 0 then ((fn_X12_confused_22 v1 v2 D1)) else ((fn_X12_isSign v2 D1).bind fun x12 => (if x12 = 0 then ((fn_X12_confused_22 v1 v2 D1)) else ((fn_X12_confused_27 v1 v2 (0 : Int32) D1)))))
theorem s_X12_confused_45 {X : zX} {Sh : zSh} {d : Nat} (hst : (zl X).stackTraces = false) (h0 : zSh0 Sh) (hd : 2 ≤ d) {v1 : Int32} {v2 : Int32} (w1 : Int32) (D : zD)  : Rn X m_X12_confused (d + 1) 45 [(0, .ref 102), (1, .int v1), (2, .int v2)] [.int w1, .ref 102] (Sh, D) ((oI Sh) (fn_X12_confused_45 v1 v2 w1 D)) := by
  rw [fn_X12_confused_45]
  refine r_iconst (pc := 45) (2 : Int32) d_X12_confused_45 rfl ?_
  refine q_cI (f := (oI Sh)) (av := [.ref 102, .int w1, .int (2 : Int32)]) (st := []) (z_runV ck_X12_bad rfl ml_X12_214 ci_X12_bad cv_X12_bad (K_102 h0) (ci := 12) rfl rfl (Nat.le_of_ble_eq_true rfl) d_X12_confused_46) (s_X12_bad hst h0 (by omega)) kp_I (fun q7 _ => ?_)
  refine r_if_eq (f := (oI Sh)) (pc := 49) 54 d_X12_confused_49 (by decide) (fun c8 => ?_) (fun c8 => ?_)
  · refine r_aload_n (pc := 54) 0 d_X12_confused_54 rfl rfl ?_
    refine r_aload_n (pc := 55) 0 d_X12_confused_55 rfl rfl ?_
    refine r_getR (pc := 56) g_X12_26 (K_102 h0) rfl (R_102_19 h0) d_X12_confused_56 ?_
    refine r_iload_n (pc := 59) 1 d_X12_confused_59 rfl rfl ?_
    refine r_ck (f := (oI Sh)) rfl (fun hc9 => ?_)
    refine q_iald (pc := 60) (j := v1.toNatClampNeg) (K_105 h0) hc9 rfl d_X12_confused_60 ?_
    refine r_aload_n (pc := 61) 0 d_X12_confused_61 rfl rfl ?_
    refine r_getR (pc := 62) g_X12_26 (K_102 h0) rfl (R_102_19 h0) d_X12_confused_62 ?_
    refine r_iload_n (pc := 65) 2 d_X12_confused_65 rfl rfl ?_
    refine r_ck (f := (oI Sh)) rfl (fun hc10 => ?_)
    refine q_iald (pc := 66) (j := v2.toNatClampNeg) (K_105 h0) hc10 rfl d_X12_confused_66 ?_
    refine q_cP (f := (oI Sh)) (av := [.ref 102, .int (gI q7.2 105 v1.toNatClampNeg), .int (gI q7.2 105 v2.toNatClampNeg)]) (st := []) (z_runV ck_X12_firstCover rfl ml_X12_302 ci_X12_firstCover cv_X12_firstCover (K_102 h0) (ci := 12) rfl rfl (Nat.le_of_ble_eq_true rfl) d_X12_confused_67) (s_X12_firstCover hst h0 (by omega)) kp_I (fun x11 _ => ?_)
    exact r_iret (pc := 70) rfl d_X12_confused_70
  · refine r_iconst (pc := 52) (0 : Int32) d_X12_confused_52 rfl ?_
    exact r_iret (pc := 53) rfl d_X12_confused_53
theorem s_X12_confused_27 {X : zX} {Sh : zSh} {d : Nat} (hst : (zl X).stackTraces = false) (h0 : zSh0 Sh) (hd : 2 ≤ d) {v1 : Int32} {v2 : Int32} (w1 : Int32) (D : zD)  : Rn X m_X12_confused (d + 1) 27 [(0, .ref 102), (1, .int v1), (2, .int v2)] [.int w1, .ref 102] (Sh, D) ((oI Sh) (fn_X12_confused_27 v1 v2 w1 D)) := by
  rw [fn_X12_confused_27]
  refine r_iconst (pc := 27) (1 : Int32) d_X12_confused_27 rfl ?_
  refine q_cI (f := (oI Sh)) (av := [.ref 102, .int w1, .int (1 : Int32)]) (st := []) (z_runV ck_X12_bad rfl ml_X12_214 ci_X12_bad cv_X12_bad (K_102 h0) (ci := 12) rfl rfl (Nat.le_of_ble_eq_true rfl) d_X12_confused_28) (s_X12_bad hst h0 (by omega)) kp_I (fun q4 _ => ?_)
  refine r_if_ne (f := (oI Sh)) (pc := 31) 52 d_X12_confused_31 (by decide) (fun c5 => ?_) (fun c5 => ?_)
  · refine r_iconst (pc := 52) (0 : Int32) d_X12_confused_52 rfl ?_
    exact r_iret (pc := 53) rfl d_X12_confused_53
  · refine r_aload_n (pc := 34) 0 d_X12_confused_34 rfl rfl ?_
    refine r_iload_n (pc := 35) 1 d_X12_confused_35 rfl rfl ?_
    refine r_iload_n (pc := 36) 2 d_X12_confused_36 rfl rfl ?_
    refine r_icmp_ne (f := (oI Sh)) (pc := 37) 44 d_X12_confused_37 (by decide) (fun c6 => ?_) (fun c6 => ?_)
    · refine r_iconst (pc := 44) (0 : Int32) d_X12_confused_44 rfl ?_
      refine r_pick [0, 1, 2] (ls' := [(0, .ref 102), (1, .int v1), (2, .int v2)]) rfl ?_
      exact s_X12_confused_45 hst h0 hd (0 : Int32) q4.2
    · refine r_iconst (pc := 40) (1 : Int32) d_X12_confused_40 rfl ?_
      refine r_goto (pc := 41) 45 d_X12_confused_41 (by decide) ?_
      refine r_pick [0, 1, 2] (ls' := [(0, .ref 102), (1, .int v1), (2, .int v2)]) rfl ?_
      exact s_X12_confused_45 hst h0 hd (1 : Int32) q4.2
theorem s_X12_confused_22 {X : zX} {Sh : zSh} {d : Nat} (hst : (zl X).stackTraces = false) (h0 : zSh0 Sh) (hd : 2 ≤ d) {v1 : Int32} {v2 : Int32}  (D : zD)  : Rn X m_X12_confused (d + 1) 22 [(0, .ref 102), (1, .int v1), (2, .int v2)] [.ref 102] (Sh, D) ((oI Sh) (fn_X12_confused_22 v1 v2 D)) := by
  rw [fn_X12_confused_22]
  refine r_iconst (pc := 22) (1 : Int32) d_X12_confused_22 rfl ?_
  refine r_goto (pc := 23) 27 d_X12_confused_23 (by decide) ?_
  refine r_pick [0, 1, 2] (ls' := [(0, .ref 102), (1, .int v1), (2, .int v2)]) rfl ?_
  exact s_X12_confused_27 hst h0 hd (1 : Int32) D
theorem s_X12_confused {X : zX} {Sh : zSh} {d : Nat} (hst : (zl X).stackTraces = false) (h0 : zSh0 Sh) (hd : 3 ≤ d) {v1 : Int32} {v2 : Int32} {D : zD} : Sd X m_X12_confused d [.ref 102, .int v1, .int v2] (Sh, D) ((oI Sh) (fn_X12_confused v1 v2 D)) := by
  obtain ⟨d, rfl⟩ : ∃ e, d = e + 1 := ⟨d - 1, by omega⟩
  replace hd : 2 ≤ d := by omega
  refine z_body ck_X12_confused rfl (Nat.le_of_ble_eq_true rfl) rfl hst ?_
  rw [fn_X12_confused]
  show Rn X m_X12_confused (d + 1) 0 [(0, .ref 102), (1, .int v1), (2, .int v2)] [] (Sh, D) _
  refine r_aload_n (pc := 0) 0 d_X12_confused_0 rfl rfl ?_
  refine r_iconst (pc := 1) (0 : Int32) d_X12_confused_1 rfl ?_
  refine r_putI (pc := 2) p_X12_113 (K_102 h0) rfl (Or.inl rfl) d_X12_confused_2 ?_
  refine r_letD (f := (oI Sh)) (fun D1 => ?_)
  refine r_aload_n (pc := 5) 0 d_X12_confused_5 rfl rfl ?_
  refine r_aload_n (pc := 6) 0 d_X12_confused_6 rfl rfl ?_
  refine r_iload_n (pc := 7) 1 d_X12_confused_7 rfl rfl ?_
  refine q_cP (f := (oI Sh)) (av := [.ref 102, .int v1]) (st := [.ref 102]) (z_runV ck_X12_isSign rfl ml_X12_296 ci_X12_isSign cv_X12_isSign (K_102 h0) (ci := 12) rfl rfl (Nat.le_of_ble_eq_true rfl) d_X12_confused_8) (s_X12_isSign hst h0 (by omega)) kp_I (fun x2 _ => ?_)
  refine r_if_eq (f := (oI Sh)) (pc := 11) 22 d_X12_confused_11 (by decide) (fun c3 => ?_) (fun c3 => ?_)
  · refine r_pick [0, 1, 2] (ls' := [(0, .ref 102), (1, .int v1), (2, .int v2)]) rfl ?_
    exact s_X12_confused_22 hst h0 hd D1
  · refine r_aload_n (pc := 14) 0 d_X12_confused_14 rfl rfl ?_
    refine r_iload_n (pc := 15) 2 d_X12_confused_15 rfl rfl ?_
    refine q_cP (f := (oI Sh)) (av := [.ref 102, .int v2]) (st := [.ref 102]) (z_runV ck_X12_isSign rfl ml_X12_296 ci_X12_isSign cv_X12_isSign (K_102 h0) (ci := 12) rfl rfl (Nat.le_of_ble_eq_true rfl) d_X12_confused_16) (s_X12_isSign hst h0 (by omega)) kp_I (fun x12 _ => ?_)
    refine r_if_ne (f := (oI Sh)) (pc := 19) 26 d_X12_confused_19 (by decide) (fun c13 => ?_) (fun c13 => ?_)
    · refine r_iconst (pc := 26) (0 : Int32) d_X12_confused_26 rfl ?_
      refine r_pick [0, 1, 2] (ls' := [(0, .ref 102), (1, .int v1), (2, .int v2)]) rfl ?_
      exact s_X12_confused_27 hst h0 hd (0 : Int32) D1
    · refine r_pick [0, 1, 2] (ls' := [(0, .ref 102), (1, .int v1), (2, .int v2)]) rfl ?_
      exact s_X12_confused_22 hst h0 hd D1
/-! CoveredSignsModel.layNow -/
theorem d_X12_layNow_0 : decode (yB m_X12_layNow) 0 = .ok (.iconst 0, 1) := by decide +kernel
theorem d_X12_layNow_1 : decode (yB m_X12_layNow) 1 = .ok (.istore_n 1, 1) := by decide +kernel
theorem d_X12_layNow_2 : decode (yB m_X12_layNow) 2 = .ok (.iload_n 1, 1) := by decide +kernel
theorem d_X12_layNow_3 : decode (yB m_X12_layNow) 3 = .ok (.aload_n 0, 1) := by decide +kernel
theorem d_X12_layNow_4 : decode (yB m_X12_layNow) 4 = .ok (.getfield 224, 3) := by decide +kernel
theorem d_X12_layNow_7 : decode (yB m_X12_layNow) 7 = .ok (.if_icmp .ge 21, 3) := by decide +kernel
theorem d_X12_layNow_10 : decode (yB m_X12_layNow) 10 = .ok (.aload_n 0, 1) := by decide +kernel
theorem d_X12_layNow_11 : decode (yB m_X12_layNow) 11 = .ok (.getfield 78, 3) := by decide +kernel
theorem d_X12_layNow_14 : decode (yB m_X12_layNow) 14 = .ok (.iload_n 1, 1) := by decide +kernel
theorem d_X12_layNow_15 : decode (yB m_X12_layNow) 15 = .ok (.aload_n 0, 1) := by decide +kernel
theorem d_X12_layNow_16 : decode (yB m_X12_layNow) 16 = .ok (.getfield 26, 3) := by decide +kernel
theorem d_X12_layNow_19 : decode (yB m_X12_layNow) 19 = .ok (.iload_n 1, 1) := by decide +kernel
theorem d_X12_layNow_20 : decode (yB m_X12_layNow) 20 = .ok (.iaload, 1) := by decide +kernel
theorem d_X12_layNow_21 : decode (yB m_X12_layNow) 21 = .ok (.iastore, 1) := by decide +kernel
theorem d_X12_layNow_22 : decode (yB m_X12_layNow) 22 = .ok (.iinc 1 1, 3) := by decide +kernel
theorem d_X12_layNow_25 : decode (yB m_X12_layNow) 25 = .ok (.goto (-23), 3) := by decide +kernel
theorem d_X12_layNow_28 : decode (yB m_X12_layNow) 28 = .ok (.return_, 1) := by decide +kernel
def fn_X12_layNow_2  : Nat → Int32 → zD → Option zD
  | 0, _, _ => none
  | n + 1, v1, D => (if (gI D 102 16) ≤ v1 then ((some D)) else (zck v1 12 <| zck v1 12 <| zlet (sI D 195 v1.toNatClampNeg (gI D 105 v1.toNatClampNeg)) fun D4 => ((fn_X12_layNow_2  n) (v1 + (1 : Int32)) D4)))
def fn_X12_layNow (D : zD) : Option zD := (fn_X12_layNow_2 zFU (0 : Int32) D)
theorem s_X12_layNow_2 {X : zX} {Sh : zSh} {d : Nat} (hst : (zl X).stackTraces = false) (h0 : zSh0 Sh) (hd : 0 ≤ d)  : ∀ (n : Nat) (v1 : Int32) (D : zD) , Rn X m_X12_layNow (d + 1) 2 [(0, .ref 102), (1, .int v1)] [] (Sh, D) ((oV Sh) (fn_X12_layNow_2  n v1 D)) := by
  intro n
  induction n with
  | zero => intro v1 D; exact Rn_none rfl
  | succ n hk2 =>
    intro v1 D
    rw [fn_X12_layNow_2]
    refine r_iload_n (pc := 2) 1 d_X12_layNow_2 rfl rfl ?_
    refine r_aload_n (pc := 3) 0 d_X12_layNow_3 rfl rfl ?_
    refine q_gI (pc := 4) g_X12_224 (K_102 h0) rfl d_X12_layNow_4 ?_
    refine r_icmp_ge (f := (oV Sh)) (pc := 7) 28 d_X12_layNow_7 (by decide) (fun c1 => ?_) (fun c1 => ?_)
    · exact r_vret (pc := 28) rfl d_X12_layNow_28
    · refine r_aload_n (pc := 10) 0 d_X12_layNow_10 rfl rfl ?_
      refine r_getR (pc := 11) g_X12_78 (K_102 h0) rfl (R_102_43 h0) d_X12_layNow_11 ?_
      refine r_iload_n (pc := 14) 1 d_X12_layNow_14 rfl rfl ?_
      refine r_aload_n (pc := 15) 0 d_X12_layNow_15 rfl rfl ?_
      refine r_getR (pc := 16) g_X12_26 (K_102 h0) rfl (R_102_19 h0) d_X12_layNow_16 ?_
      refine r_iload_n (pc := 19) 1 d_X12_layNow_19 rfl rfl ?_
      refine r_ck (f := (oV Sh)) rfl (fun hc2 => ?_)
      refine q_iald (pc := 20) (j := v1.toNatClampNeg) (K_105 h0) hc2 rfl d_X12_layNow_20 ?_
      refine r_ck (f := (oV Sh)) rfl (fun hc3 => ?_)
      refine q_iast (pc := 21) (j := v1.toNatClampNeg) (K_195 h0) hc3 rfl  d_X12_layNow_21 ?_
      refine r_letD (f := (oV Sh)) (fun D4 => ?_)
      refine r_iinc (pc := 22) ((v1 + (1 : Int32))) 1 (ls' := [(1, .int (v1 + (1 : Int32))), (0, .ref 102)]) d_X12_layNow_22 rfl rfl (Nat.le_of_ble_eq_true rfl) rfl ?_
      refine r_goto (pc := 25) 2 d_X12_layNow_25 (by decide) ?_
      refine r_pick [1, 0] (ls' := [(0, .ref 102), (1, .int (v1 + (1 : Int32)))]) rfl ?_
      exact hk2 (v1 + (1 : Int32)) D4 
theorem s_X12_layNow {X : zX} {Sh : zSh} {d : Nat} (hst : (zl X).stackTraces = false) (h0 : zSh0 Sh) (hd : 1 ≤ d)  {D : zD} : Sd X m_X12_layNow d [.ref 102] (Sh, D) ((oV Sh) (fn_X12_layNow D)) := by
  obtain ⟨d, rfl⟩ : ∃ e, d = e + 1 := ⟨d - 1, by omega⟩
  replace hd : 0 ≤ d := by omega
  refine z_body ck_X12_layNow rfl (Nat.le_of_ble_eq_true rfl) rfl hst ?_
  rw [fn_X12_layNow]
  show Rn X m_X12_layNow (d + 1) 0 [(0, .ref 102)] [] (Sh, D) _
  refine r_iconst (pc := 0) (0 : Int32) d_X12_layNow_0 rfl ?_
  refine r_istore_n (pc := 1) (ls' := [(1, .int (0 : Int32)), (0, .ref 102)]) d_X12_layNow_1 rfl (Nat.le_of_ble_eq_true rfl) rfl ?_
  refine r_pick [1, 0] (ls' := [(0, .ref 102), (1, .int (0 : Int32))]) rfl ?_
  exact s_X12_layNow_2 hst h0 hd zFU  (0 : Int32) D
/-! CoveredSignsModel.layPairsOf -/
theorem d_X12_layPairsOf_0 : decode (yB m_X12_layPairsOf) 0 = .ok (.iconst 0, 1) := by decide +kernel
theorem d_X12_layPairsOf_1 : decode (yB m_X12_layPairsOf) 1 = .ok (.istore_n 2, 1) := by decide +kernel
theorem d_X12_layPairsOf_2 : decode (yB m_X12_layPairsOf) 2 = .ok (.iload_n 2, 1) := by decide +kernel
theorem d_X12_layPairsOf_3 : decode (yB m_X12_layPairsOf) 3 = .ok (.aload_n 0, 1) := by decide +kernel
theorem d_X12_layPairsOf_4 : decode (yB m_X12_layPairsOf) 4 = .ok (.getfield 224, 3) := by decide +kernel
theorem d_X12_layPairsOf_7 : decode (yB m_X12_layPairsOf) 7 = .ok (.if_icmp .ge 58, 3) := by decide +kernel
theorem d_X12_layPairsOf_10 : decode (yB m_X12_layPairsOf) 10 = .ok (.iload_n 1, 1) := by decide +kernel
theorem d_X12_layPairsOf_11 : decode (yB m_X12_layPairsOf) 11 = .ok (.iload_n 2, 1) := by decide +kernel
theorem d_X12_layPairsOf_12 : decode (yB m_X12_layPairsOf) 12 = .ok (.if_icmp .eq 27, 3) := by decide +kernel
theorem d_X12_layPairsOf_15 : decode (yB m_X12_layPairsOf) 15 = .ok (.aload_n 0, 1) := by decide +kernel
theorem d_X12_layPairsOf_16 : decode (yB m_X12_layPairsOf) 16 = .ok (.aload_n 0, 1) := by decide +kernel
theorem d_X12_layPairsOf_17 : decode (yB m_X12_layPairsOf) 17 = .ok (.getfield 78, 3) := by decide +kernel
theorem d_X12_layPairsOf_20 : decode (yB m_X12_layPairsOf) 20 = .ok (.iload_n 1, 1) := by decide +kernel
theorem d_X12_layPairsOf_21 : decode (yB m_X12_layPairsOf) 21 = .ok (.iaload, 1) := by decide +kernel
theorem d_X12_layPairsOf_22 : decode (yB m_X12_layPairsOf) 22 = .ok (.aload_n 0, 1) := by decide +kernel
theorem d_X12_layPairsOf_23 : decode (yB m_X12_layPairsOf) 23 = .ok (.getfield 78, 3) := by decide +kernel
theorem d_X12_layPairsOf_26 : decode (yB m_X12_layPairsOf) 26 = .ok (.iload_n 2, 1) := by decide +kernel
theorem d_X12_layPairsOf_27 : decode (yB m_X12_layPairsOf) 27 = .ok (.iaload, 1) := by decide +kernel
theorem d_X12_layPairsOf_28 : decode (yB m_X12_layPairsOf) 28 = .ok (.invokevirtual 302, 3) := by decide +kernel
theorem d_X12_layPairsOf_31 : decode (yB m_X12_layPairsOf) 31 = .ok (.iconst (-1), 1) := by decide +kernel
theorem d_X12_layPairsOf_32 : decode (yB m_X12_layPairsOf) 32 = .ok (.if_icmp .eq 7, 3) := by decide +kernel
theorem d_X12_layPairsOf_35 : decode (yB m_X12_layPairsOf) 35 = .ok (.iconst 1, 1) := by decide +kernel
theorem d_X12_layPairsOf_36 : decode (yB m_X12_layPairsOf) 36 = .ok (.goto 4, 3) := by decide +kernel
theorem d_X12_layPairsOf_39 : decode (yB m_X12_layPairsOf) 39 = .ok (.iconst 0, 1) := by decide +kernel
theorem d_X12_layPairsOf_40 : decode (yB m_X12_layPairsOf) 40 = .ok (.istore_n 3, 1) := by decide +kernel
theorem d_X12_layPairsOf_41 : decode (yB m_X12_layPairsOf) 41 = .ok (.aload_n 0, 1) := by decide +kernel
theorem d_X12_layPairsOf_42 : decode (yB m_X12_layPairsOf) 42 = .ok (.getfield 75, 3) := by decide +kernel
theorem d_X12_layPairsOf_45 : decode (yB m_X12_layPairsOf) 45 = .ok (.iload_n 1, 1) := by decide +kernel
theorem d_X12_layPairsOf_46 : decode (yB m_X12_layPairsOf) 46 = .ok (.aaload, 1) := by decide +kernel
theorem d_X12_layPairsOf_47 : decode (yB m_X12_layPairsOf) 47 = .ok (.iload_n 2, 1) := by decide +kernel
theorem d_X12_layPairsOf_48 : decode (yB m_X12_layPairsOf) 48 = .ok (.iload_n 3, 1) := by decide +kernel
theorem d_X12_layPairsOf_49 : decode (yB m_X12_layPairsOf) 49 = .ok (.bastore, 1) := by decide +kernel
theorem d_X12_layPairsOf_50 : decode (yB m_X12_layPairsOf) 50 = .ok (.aload_n 0, 1) := by decide +kernel
theorem d_X12_layPairsOf_51 : decode (yB m_X12_layPairsOf) 51 = .ok (.getfield 75, 3) := by decide +kernel
theorem d_X12_layPairsOf_54 : decode (yB m_X12_layPairsOf) 54 = .ok (.iload_n 2, 1) := by decide +kernel
theorem d_X12_layPairsOf_55 : decode (yB m_X12_layPairsOf) 55 = .ok (.aaload, 1) := by decide +kernel
theorem d_X12_layPairsOf_56 : decode (yB m_X12_layPairsOf) 56 = .ok (.iload_n 1, 1) := by decide +kernel
theorem d_X12_layPairsOf_57 : decode (yB m_X12_layPairsOf) 57 = .ok (.iload_n 3, 1) := by decide +kernel
theorem d_X12_layPairsOf_58 : decode (yB m_X12_layPairsOf) 58 = .ok (.bastore, 1) := by decide +kernel
theorem d_X12_layPairsOf_59 : decode (yB m_X12_layPairsOf) 59 = .ok (.iinc 2 1, 3) := by decide +kernel
theorem d_X12_layPairsOf_62 : decode (yB m_X12_layPairsOf) 62 = .ok (.goto (-60), 3) := by decide +kernel
theorem d_X12_layPairsOf_65 : decode (yB m_X12_layPairsOf) 65 = .ok (.return_, 1) := by decide +kernel
def fn_X12_layPairsOf_40 (v1 : Int32) (k2 : Int32 → zD → Option zD) (v2 : Int32) (w0 : Int32) (D : zD) : Option zD := zck v1 12 <| zck v2 12 <| zcb w0 <| zlet (sI D (183 + v1.toNatClampNeg) v2.toNatClampNeg w0) fun D6 => zck v2 12 <| zck v1 12 <| zcb w0 <| zlet (sI D6 (183 + v2.toNatClampNeg) v1.toNatClampNeg w0) fun D10 => (k2 (v2 + (1 : Int32)) D10)
def fn_X12_layPairsOf_39 (v1 : Int32) (k2 : Int32 → zD → Option zD) (v2 : Int32) (D : zD) : Option zD := (fn_X12_layPairsOf_40 v1 k2 v2 (0 : Int32) D)
def fn_X12_layPairsOf_2 (v1 : Int32) : Nat → Int32 → zD → Option zD
  | 0, _, _ => none
  | n + 1, v2, D => (if (gI D 102 16) ≤ v2 then ((some D)) else ((if v1 = v2 then ((fn_X12_layPairsOf_39 v1 (fn_X12_layPairsOf_2 v1 n) v2 D)) else (zck v1 12 <| zck v2 12 <| (fn_X12_firstCover (gI D 195 v1.toNatClampNeg) (gI D 195 v2.toNatClampNeg) D).bind fun x13 => (if x13 = (-1 : Int32) then ((fn_X12_layPairsOf_39 v1 (fn_X12_layPairsOf_2 v1 n) v2 D)) else ((fn_X12_layPairsOf_40 v1 (fn_X12_layPairsOf_2 v1 n) v2 (1 : Int32) D)))))))
def fn_X12_layPairsOf (v1 : Int32) (D : zD) : Option zD := (fn_X12_layPairsOf_2 v1 zFU (0 : Int32) D)
theorem s_X12_layPairsOf_40 {X : zX} {Sh : zSh} {d : Nat} (hst : (zl X).stackTraces = false) (h0 : zSh0 Sh) (hd : 2 ≤ d) {v1 : Int32} (k2 : Int32 → zD → Option zD) (hk2 : ∀ (v2 : Int32) (D : zD) , Rn X m_X12_layPairsOf (d + 1) 2 [(0, .ref 102), (1, .int v1), (2, .int v2)] [] (Sh, D) ((oV Sh) (k2 v2 D))) (v2 : Int32) (w0 : Int32) (D : zD)  : Rn X m_X12_layPairsOf (d + 1) 40 [(0, .ref 102), (1, .int v1), (2, .int v2)] [.int w0] (Sh, D) ((oV Sh) (fn_X12_layPairsOf_40 v1 k2 v2 w0 D)) := by
  rw [fn_X12_layPairsOf_40]
  refine r_istore_n (pc := 40) (ls' := [(3, .int w0), (0, .ref 102), (1, .int v1), (2, .int v2)]) d_X12_layPairsOf_40 rfl (Nat.le_of_ble_eq_true rfl) rfl ?_
  refine r_aload_n (pc := 41) 1 d_X12_layPairsOf_41 rfl rfl ?_
  refine r_getR (pc := 42) g_X12_75 (K_102 h0) rfl (R_102_42 h0) d_X12_layPairsOf_42 ?_
  refine r_iload_n (pc := 45) 2 d_X12_layPairsOf_45 rfl rfl ?_
  refine r_ck (f := (oV Sh)) rfl (fun hc3 => ?_)
  refine q_aald (pc := 46) (j := v1.toNatClampNeg) (K_182 h0) (Or.inr (Or.inl ⟨rfl, rfl⟩)) hc3 rfl (RW_182 h0 _ (z_lt hc3)) d_X12_layPairsOf_46 ?_
  refine r_iload_n (pc := 47) 3 d_X12_layPairsOf_47 rfl rfl ?_
  refine r_iload_n (pc := 48) 0 d_X12_layPairsOf_48 rfl rfl ?_
  refine r_ck (f := (oV Sh)) rfl (fun hc4 => ?_)
  refine r_cb (f := (oV Sh)) rfl (fun hb5 => ?_)
  refine q_zast (pc := 49) (j := v2.toNatClampNeg) (RK_182 h0 _ (z_lt hc3)) hc4 rfl  hb5 d_X12_layPairsOf_49 ?_
  refine r_letD (f := (oV Sh)) (fun D6 => ?_)
  refine r_aload_n (pc := 50) 1 d_X12_layPairsOf_50 rfl rfl ?_
  refine r_getR (pc := 51) g_X12_75 (K_102 h0) rfl (R_102_42 h0) d_X12_layPairsOf_51 ?_
  refine r_iload_n (pc := 54) 3 d_X12_layPairsOf_54 rfl rfl ?_
  refine r_ck (f := (oV Sh)) rfl (fun hc7 => ?_)
  refine q_aald (pc := 55) (j := v2.toNatClampNeg) (K_182 h0) (Or.inr (Or.inl ⟨rfl, rfl⟩)) hc7 rfl (RW_182 h0 _ (z_lt hc7)) d_X12_layPairsOf_55 ?_
  refine r_iload_n (pc := 56) 2 d_X12_layPairsOf_56 rfl rfl ?_
  refine r_iload_n (pc := 57) 0 d_X12_layPairsOf_57 rfl rfl ?_
  refine r_ck (f := (oV Sh)) rfl (fun hc8 => ?_)
  refine r_cb (f := (oV Sh)) rfl (fun hb9 => ?_)
  refine q_zast (pc := 58) (j := v1.toNatClampNeg) (RK_182 h0 _ (z_lt hc7)) hc8 rfl  hb9 d_X12_layPairsOf_58 ?_
  refine r_letD (f := (oV Sh)) (fun D10 => ?_)
  refine r_iinc (pc := 59) ((v2 + (1 : Int32))) 3 (ls' := [(2, .int (v2 + (1 : Int32))), (3, .int w0), (0, .ref 102), (1, .int v1)]) d_X12_layPairsOf_59 rfl rfl (Nat.le_of_ble_eq_true rfl) rfl ?_
  refine r_goto (pc := 62) 2 d_X12_layPairsOf_62 (by decide) ?_
  refine r_pick [2, 3, 0] (ls' := [(0, .ref 102), (1, .int v1), (2, .int (v2 + (1 : Int32)))]) rfl ?_
  exact hk2 (v2 + (1 : Int32)) D10 
theorem s_X12_layPairsOf_39 {X : zX} {Sh : zSh} {d : Nat} (hst : (zl X).stackTraces = false) (h0 : zSh0 Sh) (hd : 2 ≤ d) {v1 : Int32} (k2 : Int32 → zD → Option zD) (hk2 : ∀ (v2 : Int32) (D : zD) , Rn X m_X12_layPairsOf (d + 1) 2 [(0, .ref 102), (1, .int v1), (2, .int v2)] [] (Sh, D) ((oV Sh) (k2 v2 D))) (v2 : Int32) (D : zD)  : Rn X m_X12_layPairsOf (d + 1) 39 [(0, .ref 102), (1, .int v1), (2, .int v2)] [] (Sh, D) ((oV Sh) (fn_X12_layPairsOf_39 v1 k2 v2 D)) := by
  rw [fn_X12_layPairsOf_39]
  refine r_iconst (pc := 39) (0 : Int32) d_X12_layPairsOf_39 rfl ?_
  refine r_pick [0, 1, 2] (ls' := [(0, .ref 102), (1, .int v1), (2, .int v2)]) rfl ?_
  exact s_X12_layPairsOf_40 hst h0 hd k2 hk2 v2 (0 : Int32) D
theorem s_X12_layPairsOf_2 {X : zX} {Sh : zSh} {d : Nat} (hst : (zl X).stackTraces = false) (h0 : zSh0 Sh) (hd : 2 ≤ d) {v1 : Int32} : ∀ (n : Nat) (v2 : Int32) (D : zD) , Rn X m_X12_layPairsOf (d + 1) 2 [(0, .ref 102), (1, .int v1), (2, .int v2)] [] (Sh, D) ((oV Sh) (fn_X12_layPairsOf_2 v1 n v2 D)) := by
  intro n
  induction n with
  | zero => intro v2 D; exact Rn_none rfl
  | succ n hk2 =>
    intro v2 D
    rw [fn_X12_layPairsOf_2]
    refine r_iload_n (pc := 2) 2 d_X12_layPairsOf_2 rfl rfl ?_
    refine r_aload_n (pc := 3) 0 d_X12_layPairsOf_3 rfl rfl ?_
    refine q_gI (pc := 4) g_X12_224 (K_102 h0) rfl d_X12_layPairsOf_4 ?_
    refine r_icmp_ge (f := (oV Sh)) (pc := 7) 65 d_X12_layPairsOf_7 (by decide) (fun c1 => ?_) (fun c1 => ?_)
    · exact r_vret (pc := 65) rfl d_X12_layPairsOf_65
    · refine r_iload_n (pc := 10) 1 d_X12_layPairsOf_10 rfl rfl ?_
      refine r_iload_n (pc := 11) 2 d_X12_layPairsOf_11 rfl rfl ?_
      refine r_icmp_eq (f := (oV Sh)) (pc := 12) 39 d_X12_layPairsOf_12 (by decide) (fun c2 => ?_) (fun c2 => ?_)
      · refine r_pick [0, 1, 2] (ls' := [(0, .ref 102), (1, .int v1), (2, .int v2)]) rfl ?_
        exact s_X12_layPairsOf_39 hst h0 hd (fn_X12_layPairsOf_2 v1 n) hk2 v2 D
      · refine r_aload_n (pc := 15) 0 d_X12_layPairsOf_15 rfl rfl ?_
        refine r_aload_n (pc := 16) 0 d_X12_layPairsOf_16 rfl rfl ?_
        refine r_getR (pc := 17) g_X12_78 (K_102 h0) rfl (R_102_43 h0) d_X12_layPairsOf_17 ?_
        refine r_iload_n (pc := 20) 1 d_X12_layPairsOf_20 rfl rfl ?_
        refine r_ck (f := (oV Sh)) rfl (fun hc11 => ?_)
        refine q_iald (pc := 21) (j := v1.toNatClampNeg) (K_195 h0) hc11 rfl d_X12_layPairsOf_21 ?_
        refine r_aload_n (pc := 22) 0 d_X12_layPairsOf_22 rfl rfl ?_
        refine r_getR (pc := 23) g_X12_78 (K_102 h0) rfl (R_102_43 h0) d_X12_layPairsOf_23 ?_
        refine r_iload_n (pc := 26) 2 d_X12_layPairsOf_26 rfl rfl ?_
        refine r_ck (f := (oV Sh)) rfl (fun hc12 => ?_)
        refine q_iald (pc := 27) (j := v2.toNatClampNeg) (K_195 h0) hc12 rfl d_X12_layPairsOf_27 ?_
        refine q_cP (f := (oV Sh)) (av := [.ref 102, .int (gI D 195 v1.toNatClampNeg), .int (gI D 195 v2.toNatClampNeg)]) (st := []) (z_runV ck_X12_firstCover rfl ml_X12_302 ci_X12_firstCover cv_X12_firstCover (K_102 h0) (ci := 12) rfl rfl (Nat.le_of_ble_eq_true rfl) d_X12_layPairsOf_28) (s_X12_firstCover hst h0 (by omega)) kp_V (fun x13 _ => ?_)
        refine r_iconst (pc := 31) (-1 : Int32) d_X12_layPairsOf_31 rfl ?_
        refine r_icmp_eq (f := (oV Sh)) (pc := 32) 39 d_X12_layPairsOf_32 (by decide) (fun c14 => ?_) (fun c14 => ?_)
        · refine r_pick [0, 1, 2] (ls' := [(0, .ref 102), (1, .int v1), (2, .int v2)]) rfl ?_
          exact s_X12_layPairsOf_39 hst h0 hd (fn_X12_layPairsOf_2 v1 n) hk2 v2 D
        · refine r_iconst (pc := 35) (1 : Int32) d_X12_layPairsOf_35 rfl ?_
          refine r_goto (pc := 36) 40 d_X12_layPairsOf_36 (by decide) ?_
          refine r_pick [0, 1, 2] (ls' := [(0, .ref 102), (1, .int v1), (2, .int v2)]) rfl ?_
          exact s_X12_layPairsOf_40 hst h0 hd (fn_X12_layPairsOf_2 v1 n) hk2 v2 (1 : Int32) D
theorem s_X12_layPairsOf {X : zX} {Sh : zSh} {d : Nat} (hst : (zl X).stackTraces = false) (h0 : zSh0 Sh) (hd : 3 ≤ d) {v1 : Int32} {D : zD} : Sd X m_X12_layPairsOf d [.ref 102, .int v1] (Sh, D) ((oV Sh) (fn_X12_layPairsOf v1 D)) := by
  obtain ⟨d, rfl⟩ : ∃ e, d = e + 1 := ⟨d - 1, by omega⟩
  replace hd : 2 ≤ d := by omega
  refine z_body ck_X12_layPairsOf rfl (Nat.le_of_ble_eq_true rfl) rfl hst ?_
  rw [fn_X12_layPairsOf]
  show Rn X m_X12_layPairsOf (d + 1) 0 [(0, .ref 102), (1, .int v1)] [] (Sh, D) _
  refine r_iconst (pc := 0) (0 : Int32) d_X12_layPairsOf_0 rfl ?_
  refine r_istore_n (pc := 1) (ls' := [(2, .int (0 : Int32)), (0, .ref 102), (1, .int v1)]) d_X12_layPairsOf_1 rfl (Nat.le_of_ble_eq_true rfl) rfl ?_
  refine r_pick [1, 2, 0] (ls' := [(0, .ref 102), (1, .int v1), (2, .int (0 : Int32))]) rfl ?_
  exact s_X12_layPairsOf_2 hst h0 hd zFU  (0 : Int32) D
/-! CoveredSignsModel.pairs -/
theorem d_X12_pairs_0 : decode (yB m_X12_pairs) 0 = .ok (.iconst 0, 1) := by decide +kernel
theorem d_X12_pairs_1 : decode (yB m_X12_pairs) 1 = .ok (.istore_n 1, 1) := by decide +kernel
theorem d_X12_pairs_2 : decode (yB m_X12_pairs) 2 = .ok (.iconst 0, 1) := by decide +kernel
theorem d_X12_pairs_3 : decode (yB m_X12_pairs) 3 = .ok (.istore_n 2, 1) := by decide +kernel
theorem d_X12_pairs_4 : decode (yB m_X12_pairs) 4 = .ok (.iload_n 2, 1) := by decide +kernel
theorem d_X12_pairs_5 : decode (yB m_X12_pairs) 5 = .ok (.aload_n 0, 1) := by decide +kernel
theorem d_X12_pairs_6 : decode (yB m_X12_pairs) 6 = .ok (.getfield 224, 3) := by decide +kernel
theorem d_X12_pairs_9 : decode (yB m_X12_pairs) 9 = .ok (.if_icmp .ge 41, 3) := by decide +kernel
theorem d_X12_pairs_12 : decode (yB m_X12_pairs) 12 = .ok (.iconst 0, 1) := by decide +kernel
theorem d_X12_pairs_13 : decode (yB m_X12_pairs) 13 = .ok (.istore_n 3, 1) := by decide +kernel
theorem d_X12_pairs_14 : decode (yB m_X12_pairs) 14 = .ok (.iload_n 3, 1) := by decide +kernel
theorem d_X12_pairs_15 : decode (yB m_X12_pairs) 15 = .ok (.iload_n 2, 1) := by decide +kernel
theorem d_X12_pairs_16 : decode (yB m_X12_pairs) 16 = .ok (.if_icmp .ge 28, 3) := by decide +kernel
theorem d_X12_pairs_19 : decode (yB m_X12_pairs) 19 = .ok (.iload_n 1, 1) := by decide +kernel
theorem d_X12_pairs_20 : decode (yB m_X12_pairs) 20 = .ok (.aload_n 0, 1) := by decide +kernel
theorem d_X12_pairs_21 : decode (yB m_X12_pairs) 21 = .ok (.getfield 75, 3) := by decide +kernel
theorem d_X12_pairs_24 : decode (yB m_X12_pairs) 24 = .ok (.iload_n 2, 1) := by decide +kernel
theorem d_X12_pairs_25 : decode (yB m_X12_pairs) 25 = .ok (.aaload, 1) := by decide +kernel
theorem d_X12_pairs_26 : decode (yB m_X12_pairs) 26 = .ok (.iload_n 3, 1) := by decide +kernel
theorem d_X12_pairs_27 : decode (yB m_X12_pairs) 27 = .ok (.baload, 1) := by decide +kernel
theorem d_X12_pairs_28 : decode (yB m_X12_pairs) 28 = .ok (.ifCond .eq 7, 3) := by decide +kernel
theorem d_X12_pairs_31 : decode (yB m_X12_pairs) 31 = .ok (.iconst 1, 1) := by decide +kernel
theorem d_X12_pairs_32 : decode (yB m_X12_pairs) 32 = .ok (.goto 4, 3) := by decide +kernel
theorem d_X12_pairs_35 : decode (yB m_X12_pairs) 35 = .ok (.iconst 0, 1) := by decide +kernel
theorem d_X12_pairs_36 : decode (yB m_X12_pairs) 36 = .ok (.iadd, 1) := by decide +kernel
theorem d_X12_pairs_37 : decode (yB m_X12_pairs) 37 = .ok (.istore_n 1, 1) := by decide +kernel
theorem d_X12_pairs_38 : decode (yB m_X12_pairs) 38 = .ok (.iinc 3 1, 3) := by decide +kernel
theorem d_X12_pairs_41 : decode (yB m_X12_pairs) 41 = .ok (.goto (-27), 3) := by decide +kernel
theorem d_X12_pairs_44 : decode (yB m_X12_pairs) 44 = .ok (.iinc 2 1, 3) := by decide +kernel
theorem d_X12_pairs_47 : decode (yB m_X12_pairs) 47 = .ok (.goto (-43), 3) := by decide +kernel
theorem d_X12_pairs_50 : decode (yB m_X12_pairs) 50 = .ok (.iload_n 1, 1) := by decide +kernel
theorem d_X12_pairs_51 : decode (yB m_X12_pairs) 51 = .ok (.ireturn, 1) := by decide +kernel
def fn_X12_pairs_14 (D : zD) (k4 : Int32 → Int32 → Option Int32) : Nat → Int32 → Int32 → Int32 → Option Int32
  | 0, _, _, _ => none
  | n + 1, v1, v2, v3 => (if v2 ≤ v3 then ((k4 v1 (v2 + (1 : Int32)))) else (zck v2 12 <| zck v3 12 <| (if (gI D (183 + v2.toNatClampNeg) v3.toNatClampNeg) = 0 then (zlet (v1 + (0 : Int32)) fun x6 => ((fn_X12_pairs_14 D k4 n) x6 v2 (v3 + (1 : Int32)))) else (zlet (v1 + (1 : Int32)) fun x7 => ((fn_X12_pairs_14 D k4 n) x7 v2 (v3 + (1 : Int32)))))))
def fn_X12_pairs_4 (D : zD) : Nat → Int32 → Int32 → Option Int32
  | 0, _, _ => none
  | n + 1, v1, v2 => (if (gI D 102 16) ≤ v2 then ((some v1)) else ((fn_X12_pairs_14 D (fn_X12_pairs_4 D n) zFU v1 v2 (0 : Int32))))
def fn_X12_pairs (D : zD) : Option Int32 := (fn_X12_pairs_4 D zFU (0 : Int32) (0 : Int32))
theorem s_X12_pairs_14 {X : zX} {Sh : zSh} {d : Nat} (hst : (zl X).stackTraces = false) (h0 : zSh0 Sh) (hd : 0 ≤ d) (D : zD) (k4 : Int32 → Int32 → Option Int32) (hk4 : ∀ (v1 : Int32) (v2 : Int32) , Rn X m_X12_pairs (d + 1) 4 [(0, .ref 102), (1, .int v1), (2, .int v2)] [] (Sh, D) ((oP Sh D) (k4 v1 v2))) : ∀ (n : Nat) (v1 : Int32) (v2 : Int32) (v3 : Int32) , Rn X m_X12_pairs (d + 1) 14 [(0, .ref 102), (1, .int v1), (2, .int v2), (3, .int v3)] [] (Sh, D) ((oP Sh D) (fn_X12_pairs_14 D k4 n v1 v2 v3)) := by
  intro n
  induction n with
  | zero => intro v1 v2 v3; exact Rn_none rfl
  | succ n hk14 =>
    intro v1 v2 v3
    rw [fn_X12_pairs_14]
    refine r_iload_n (pc := 14) 3 d_X12_pairs_14 rfl rfl ?_
    refine r_iload_n (pc := 15) 2 d_X12_pairs_15 rfl rfl ?_
    refine r_icmp_ge (f := (oP Sh D)) (pc := 16) 44 d_X12_pairs_16 (by decide) (fun c2 => ?_) (fun c2 => ?_)
    · refine r_iinc (pc := 44) ((v2 + (1 : Int32))) 2 (ls' := [(2, .int (v2 + (1 : Int32))), (0, .ref 102), (1, .int v1), (3, .int v3)]) d_X12_pairs_44 rfl rfl (Nat.le_of_ble_eq_true rfl) rfl ?_
      refine r_goto (pc := 47) 4 d_X12_pairs_47 (by decide) ?_
      refine r_pick [1, 2, 0] (ls' := [(0, .ref 102), (1, .int v1), (2, .int (v2 + (1 : Int32)))]) rfl ?_
      exact hk4 v1 (v2 + (1 : Int32)) 
    · refine r_iload_n (pc := 19) 1 d_X12_pairs_19 rfl rfl ?_
      refine r_aload_n (pc := 20) 0 d_X12_pairs_20 rfl rfl ?_
      refine r_getR (pc := 21) g_X12_75 (K_102 h0) rfl (R_102_42 h0) d_X12_pairs_21 ?_
      refine r_iload_n (pc := 24) 2 d_X12_pairs_24 rfl rfl ?_
      refine r_ck (f := (oP Sh D)) rfl (fun hc3 => ?_)
      refine q_aald (pc := 25) (j := v2.toNatClampNeg) (K_182 h0) (Or.inr (Or.inl ⟨rfl, rfl⟩)) hc3 rfl (RW_182 h0 _ (z_lt hc3)) d_X12_pairs_25 ?_
      refine r_iload_n (pc := 26) 3 d_X12_pairs_26 rfl rfl ?_
      refine r_ck (f := (oP Sh D)) rfl (fun hc4 => ?_)
      refine q_zald (pc := 27) (j := v3.toNatClampNeg) (RK_182 h0 _ (z_lt hc3)) hc4 rfl d_X12_pairs_27 ?_
      refine r_if_eq (f := (oP Sh D)) (pc := 28) 35 d_X12_pairs_28 (by decide) (fun c5 => ?_) (fun c5 => ?_)
      · refine r_iconst (pc := 35) (0 : Int32) d_X12_pairs_35 rfl ?_
        refine r_iadd (pc := 36) d_X12_pairs_36 ?_
        refine r_leti (f := (oP Sh D)) (fun x6 => ?_)
        refine r_istore_n (pc := 37) (ls' := [(1, .int x6), (0, .ref 102), (2, .int v2), (3, .int v3)]) d_X12_pairs_37 rfl (Nat.le_of_ble_eq_true rfl) rfl ?_
        refine r_iinc (pc := 38) ((v3 + (1 : Int32))) 3 (ls' := [(3, .int (v3 + (1 : Int32))), (1, .int x6), (0, .ref 102), (2, .int v2)]) d_X12_pairs_38 rfl rfl (Nat.le_of_ble_eq_true rfl) rfl ?_
        refine r_goto (pc := 41) 14 d_X12_pairs_41 (by decide) ?_
        refine r_pick [2, 1, 3, 0] (ls' := [(0, .ref 102), (1, .int x6), (2, .int v2), (3, .int (v3 + (1 : Int32)))]) rfl ?_
        exact hk14 x6 v2 (v3 + (1 : Int32)) 
      · refine r_iconst (pc := 31) (1 : Int32) d_X12_pairs_31 rfl ?_
        refine r_goto (pc := 32) 36 d_X12_pairs_32 (by decide) ?_
        refine r_iadd (pc := 36) d_X12_pairs_36 ?_
        refine r_leti (f := (oP Sh D)) (fun x7 => ?_)
        refine r_istore_n (pc := 37) (ls' := [(1, .int x7), (0, .ref 102), (2, .int v2), (3, .int v3)]) d_X12_pairs_37 rfl (Nat.le_of_ble_eq_true rfl) rfl ?_
        refine r_iinc (pc := 38) ((v3 + (1 : Int32))) 3 (ls' := [(3, .int (v3 + (1 : Int32))), (1, .int x7), (0, .ref 102), (2, .int v2)]) d_X12_pairs_38 rfl rfl (Nat.le_of_ble_eq_true rfl) rfl ?_
        refine r_goto (pc := 41) 14 d_X12_pairs_41 (by decide) ?_
        refine r_pick [2, 1, 3, 0] (ls' := [(0, .ref 102), (1, .int x7), (2, .int v2), (3, .int (v3 + (1 : Int32)))]) rfl ?_
        exact hk14 x7 v2 (v3 + (1 : Int32)) 
theorem s_X12_pairs_4 {X : zX} {Sh : zSh} {d : Nat} (hst : (zl X).stackTraces = false) (h0 : zSh0 Sh) (hd : 0 ≤ d) (D : zD) : ∀ (n : Nat) (v1 : Int32) (v2 : Int32) , Rn X m_X12_pairs (d + 1) 4 [(0, .ref 102), (1, .int v1), (2, .int v2)] [] (Sh, D) ((oP Sh D) (fn_X12_pairs_4 D n v1 v2)) := by
  intro n
  induction n with
  | zero => intro v1 v2; exact Rn_none rfl
  | succ n hk4 =>
    intro v1 v2
    rw [fn_X12_pairs_4]
    refine r_iload_n (pc := 4) 2 d_X12_pairs_4 rfl rfl ?_
    refine r_aload_n (pc := 5) 0 d_X12_pairs_5 rfl rfl ?_
    refine q_gI (pc := 6) g_X12_224 (K_102 h0) rfl d_X12_pairs_6 ?_
    refine r_icmp_ge (f := (oP Sh D)) (pc := 9) 50 d_X12_pairs_9 (by decide) (fun c1 => ?_) (fun c1 => ?_)
    · refine r_iload_n (pc := 50) 1 d_X12_pairs_50 rfl rfl ?_
      exact r_iret (pc := 51) rfl d_X12_pairs_51
    · refine r_iconst (pc := 12) (0 : Int32) d_X12_pairs_12 rfl ?_
      refine r_istore_n (pc := 13) (ls' := [(3, .int (0 : Int32)), (0, .ref 102), (1, .int v1), (2, .int v2)]) d_X12_pairs_13 rfl (Nat.le_of_ble_eq_true rfl) rfl ?_
      refine r_pick [1, 2, 3, 0] (ls' := [(0, .ref 102), (1, .int v1), (2, .int v2), (3, .int (0 : Int32))]) rfl ?_
      exact s_X12_pairs_14 hst h0 hd D (fn_X12_pairs_4 D n) hk4 zFU  v1 v2 (0 : Int32)
theorem s_X12_pairs {X : zX} {Sh : zSh} {d : Nat} (hst : (zl X).stackTraces = false) (h0 : zSh0 Sh) (hd : 1 ≤ d)  {D : zD} : Sd X m_X12_pairs d [.ref 102] (Sh, D) ((oP Sh D) (fn_X12_pairs D)) := by
  obtain ⟨d, rfl⟩ : ∃ e, d = e + 1 := ⟨d - 1, by omega⟩
  replace hd : 0 ≤ d := by omega
  refine z_body ck_X12_pairs rfl (Nat.le_of_ble_eq_true rfl) rfl hst ?_
  rw [fn_X12_pairs]
  show Rn X m_X12_pairs (d + 1) 0 [(0, .ref 102)] [] (Sh, D) _
  refine r_iconst (pc := 0) (0 : Int32) d_X12_pairs_0 rfl ?_
  refine r_istore_n (pc := 1) (ls' := [(1, .int (0 : Int32)), (0, .ref 102)]) d_X12_pairs_1 rfl (Nat.le_of_ble_eq_true rfl) rfl ?_
  refine r_iconst (pc := 2) (0 : Int32) d_X12_pairs_2 rfl ?_
  refine r_istore_n (pc := 3) (ls' := [(2, .int (0 : Int32)), (1, .int (0 : Int32)), (0, .ref 102)]) d_X12_pairs_3 rfl (Nat.le_of_ble_eq_true rfl) rfl ?_
  refine r_pick [2, 1, 0] (ls' := [(0, .ref 102), (1, .int (0 : Int32)), (2, .int (0 : Int32))]) rfl ?_
  exact s_X12_pairs_4 hst h0 hd D zFU  (0 : Int32) (0 : Int32)
/-! CoveredSignsModel.layPairs -/
theorem d_X12_layPairs_0 : decode (yB m_X12_layPairs) 0 = .ok (.iconst 0, 1) := by decide +kernel
theorem d_X12_layPairs_1 : decode (yB m_X12_layPairs) 1 = .ok (.istore_n 1, 1) := by decide +kernel
theorem d_X12_layPairs_2 : decode (yB m_X12_layPairs) 2 = .ok (.iload_n 1, 1) := by decide +kernel
theorem d_X12_layPairs_3 : decode (yB m_X12_layPairs) 3 = .ok (.aload_n 0, 1) := by decide +kernel
theorem d_X12_layPairs_4 : decode (yB m_X12_layPairs) 4 = .ok (.getfield 224, 3) := by decide +kernel
theorem d_X12_layPairs_7 : decode (yB m_X12_layPairs) 7 = .ok (.if_icmp .ge 14, 3) := by decide +kernel
theorem d_X12_layPairs_10 : decode (yB m_X12_layPairs) 10 = .ok (.aload_n 0, 1) := by decide +kernel
theorem d_X12_layPairs_11 : decode (yB m_X12_layPairs) 11 = .ok (.iload_n 1, 1) := by decide +kernel
theorem d_X12_layPairs_12 : decode (yB m_X12_layPairs) 12 = .ok (.invokevirtual 305, 3) := by decide +kernel
theorem d_X12_layPairs_15 : decode (yB m_X12_layPairs) 15 = .ok (.iinc 1 1, 3) := by decide +kernel
theorem d_X12_layPairs_18 : decode (yB m_X12_layPairs) 18 = .ok (.goto (-16), 3) := by decide +kernel
theorem d_X12_layPairs_21 : decode (yB m_X12_layPairs) 21 = .ok (.aload_n 0, 1) := by decide +kernel
theorem d_X12_layPairs_22 : decode (yB m_X12_layPairs) 22 = .ok (.invokevirtual 308, 3) := by decide +kernel
theorem d_X12_layPairs_25 : decode (yB m_X12_layPairs) 25 = .ok (.ireturn, 1) := by decide +kernel
def fn_X12_layPairs_2  : Nat → Int32 → zD → Option (Int32 × zD)
  | 0, _, _ => none
  | n + 1, v1, D => (if (gI D 102 16) ≤ v1 then ((fn_X12_pairs D).bind fun x2 => (some (x2, D))) else ((fn_X12_layPairsOf v1 D).bind fun D3 => ((fn_X12_layPairs_2  n) (v1 + (1 : Int32)) D3)))
def fn_X12_layPairs (D : zD) : Option (Int32 × zD) := (fn_X12_layPairs_2 zFU (0 : Int32) D)
theorem s_X12_layPairs_2 {X : zX} {Sh : zSh} {d : Nat} (hst : (zl X).stackTraces = false) (h0 : zSh0 Sh) (hd : 3 ≤ d)  : ∀ (n : Nat) (v1 : Int32) (D : zD) , Rn X m_X12_layPairs (d + 1) 2 [(0, .ref 102), (1, .int v1)] [] (Sh, D) ((oI Sh) (fn_X12_layPairs_2  n v1 D)) := by
  intro n
  induction n with
  | zero => intro v1 D; exact Rn_none rfl
  | succ n hk2 =>
    intro v1 D
    rw [fn_X12_layPairs_2]
    refine r_iload_n (pc := 2) 1 d_X12_layPairs_2 rfl rfl ?_
    refine r_aload_n (pc := 3) 0 d_X12_layPairs_3 rfl rfl ?_
    refine q_gI (pc := 4) g_X12_224 (K_102 h0) rfl d_X12_layPairs_4 ?_
    refine r_icmp_ge (f := (oI Sh)) (pc := 7) 21 d_X12_layPairs_7 (by decide) (fun c1 => ?_) (fun c1 => ?_)
    · refine r_aload_n (pc := 21) 0 d_X12_layPairs_21 rfl rfl ?_
      refine q_cP (f := (oI Sh)) (av := [.ref 102]) (st := []) (z_runV ck_X12_pairs rfl ml_X12_308 ci_X12_pairs cv_X12_pairs (K_102 h0) (ci := 12) rfl rfl (Nat.le_of_ble_eq_true rfl) d_X12_layPairs_22) (s_X12_pairs hst h0 (by omega)) kp_I (fun x2 _ => ?_)
      exact r_iret (pc := 25) rfl d_X12_layPairs_25
    · refine r_aload_n (pc := 10) 0 d_X12_layPairs_10 rfl rfl ?_
      refine r_iload_n (pc := 11) 1 d_X12_layPairs_11 rfl rfl ?_
      refine q_cV (f := (oI Sh)) (av := [.ref 102, .int v1]) (st := []) (z_runV ck_X12_layPairsOf rfl ml_X12_305 ci_X12_layPairsOf cv_X12_layPairsOf (K_102 h0) (ci := 12) rfl rfl (Nat.le_of_ble_eq_true rfl) d_X12_layPairs_12) (s_X12_layPairsOf hst h0 (by omega)) kp_I (fun D3 _ => ?_)
      refine r_iinc (pc := 15) ((v1 + (1 : Int32))) 1 (ls' := [(1, .int (v1 + (1 : Int32))), (0, .ref 102)]) d_X12_layPairs_15 rfl rfl (Nat.le_of_ble_eq_true rfl) rfl ?_
      refine r_goto (pc := 18) 2 d_X12_layPairs_18 (by decide) ?_
      refine r_pick [1, 0] (ls' := [(0, .ref 102), (1, .int (v1 + (1 : Int32)))]) rfl ?_
      exact hk2 (v1 + (1 : Int32)) D3 
theorem s_X12_layPairs {X : zX} {Sh : zSh} {d : Nat} (hst : (zl X).stackTraces = false) (h0 : zSh0 Sh) (hd : 4 ≤ d)  {D : zD} : Sd X m_X12_layPairs d [.ref 102] (Sh, D) ((oI Sh) (fn_X12_layPairs D)) := by
  obtain ⟨d, rfl⟩ : ∃ e, d = e + 1 := ⟨d - 1, by omega⟩
  replace hd : 3 ≤ d := by omega
  refine z_body ck_X12_layPairs rfl (Nat.le_of_ble_eq_true rfl) rfl hst ?_
  rw [fn_X12_layPairs]
  show Rn X m_X12_layPairs (d + 1) 0 [(0, .ref 102)] [] (Sh, D) _
  refine r_iconst (pc := 0) (0 : Int32) d_X12_layPairs_0 rfl ?_
  refine r_istore_n (pc := 1) (ls' := [(1, .int (0 : Int32)), (0, .ref 102)]) d_X12_layPairs_1 rfl (Nat.le_of_ble_eq_true rfl) rfl ?_
  refine r_pick [1, 0] (ls' := [(0, .ref 102), (1, .int (0 : Int32))]) rfl ?_
  exact s_X12_layPairs_2 hst h0 hd zFU  (0 : Int32) D
/-! CoveredSignsModel.confusions -/
theorem d_X12_confusions_0 : decode (yB m_X12_confusions) 0 = .ok (.aload_n 0, 1) := by decide +kernel
theorem d_X12_confusions_1 : decode (yB m_X12_confusions) 1 = .ok (.iconst 0, 1) := by decide +kernel
theorem d_X12_confusions_2 : decode (yB m_X12_confusions) 2 = .ok (.putfield 113, 3) := by decide +kernel
theorem d_X12_confusions_5 : decode (yB m_X12_confusions) 5 = .ok (.aload_n 0, 1) := by decide +kernel
theorem d_X12_confusions_6 : decode (yB m_X12_confusions) 6 = .ok (.invokevirtual 311, 3) := by decide +kernel
theorem d_X12_confusions_9 : decode (yB m_X12_confusions) 9 = .ok (.aload_n 0, 1) := by decide +kernel
theorem d_X12_confusions_10 : decode (yB m_X12_confusions) 10 = .ok (.invokevirtual 314, 3) := by decide +kernel
theorem d_X12_confusions_13 : decode (yB m_X12_confusions) 13 = .ok (.ireturn, 1) := by decide +kernel
def fn_X12_confusions (D : zD) : Option (Int32 × zD) := zlet (sI D 102 0 (0 : Int32)) fun D1 => (fn_X12_layNow D1).bind fun D2 => (fn_X12_layPairs D2).bind fun q3 => (some (q3.1, q3.2))
theorem s_X12_confusions {X : zX} {Sh : zSh} {d : Nat} (hst : (zl X).stackTraces = false) (h0 : zSh0 Sh) (hd : 5 ≤ d)  {D : zD} : Sd X m_X12_confusions d [.ref 102] (Sh, D) ((oI Sh) (fn_X12_confusions D)) := by
  obtain ⟨d, rfl⟩ : ∃ e, d = e + 1 := ⟨d - 1, by omega⟩
  replace hd : 4 ≤ d := by omega
  refine z_body ck_X12_confusions rfl (Nat.le_of_ble_eq_true rfl) rfl hst ?_
  rw [fn_X12_confusions]
  show Rn X m_X12_confusions (d + 1) 0 [(0, .ref 102)] [] (Sh, D) _
  refine r_aload_n (pc := 0) 0 d_X12_confusions_0 rfl rfl ?_
  refine r_iconst (pc := 1) (0 : Int32) d_X12_confusions_1 rfl ?_
  refine r_putI (pc := 2) p_X12_113 (K_102 h0) rfl (Or.inl rfl) d_X12_confusions_2 ?_
  refine r_letD (f := (oI Sh)) (fun D1 => ?_)
  refine r_aload_n (pc := 5) 0 d_X12_confusions_5 rfl rfl ?_
  refine q_cV (f := (oI Sh)) (av := [.ref 102]) (st := []) (z_runV ck_X12_layNow rfl ml_X12_311 ci_X12_layNow cv_X12_layNow (K_102 h0) (ci := 12) rfl rfl (Nat.le_of_ble_eq_true rfl) d_X12_confusions_6) (s_X12_layNow hst h0 (by omega)) kp_I (fun D2 _ => ?_)
  refine r_aload_n (pc := 9) 0 d_X12_confusions_9 rfl rfl ?_
  refine q_cI (f := (oI Sh)) (av := [.ref 102]) (st := []) (z_runV ck_X12_layPairs rfl ml_X12_314 ci_X12_layPairs cv_X12_layPairs (K_102 h0) (ci := 12) rfl rfl (Nat.le_of_ble_eq_true rfl) d_X12_confusions_10) (s_X12_layPairs hst h0 (by omega)) kp_I (fun q3 _ => ?_)
  exact r_iret (pc := 13) rfl d_X12_confusions_13
/-! CoveredSignsModel.pairsBy -/
theorem d_X12_pairsBy_0 : decode (yB m_X12_pairsBy) 0 = .ok (.iconst 0, 1) := by decide +kernel
theorem d_X12_pairsBy_1 : decode (yB m_X12_pairsBy) 1 = .ok (.istore_n 2, 1) := by decide +kernel
theorem d_X12_pairsBy_2 : decode (yB m_X12_pairsBy) 2 = .ok (.iconst 0, 1) := by decide +kernel
theorem d_X12_pairsBy_3 : decode (yB m_X12_pairsBy) 3 = .ok (.istore_n 3, 1) := by decide +kernel
theorem d_X12_pairsBy_4 : decode (yB m_X12_pairsBy) 4 = .ok (.iload_n 3, 1) := by decide +kernel
theorem d_X12_pairsBy_5 : decode (yB m_X12_pairsBy) 5 = .ok (.aload_n 0, 1) := by decide +kernel
theorem d_X12_pairsBy_6 : decode (yB m_X12_pairsBy) 6 = .ok (.getfield 224, 3) := by decide +kernel
theorem d_X12_pairsBy_9 : decode (yB m_X12_pairsBy) 9 = .ok (.if_icmp .ge 67, 3) := by decide +kernel
theorem d_X12_pairsBy_12 : decode (yB m_X12_pairsBy) 12 = .ok (.iconst 0, 1) := by decide +kernel
theorem d_X12_pairsBy_13 : decode (yB m_X12_pairsBy) 13 = .ok (.istore 4, 2) := by decide +kernel
theorem d_X12_pairsBy_15 : decode (yB m_X12_pairsBy) 15 = .ok (.iload 4, 2) := by decide +kernel
theorem d_X12_pairsBy_17 : decode (yB m_X12_pairsBy) 17 = .ok (.iload_n 3, 1) := by decide +kernel
theorem d_X12_pairsBy_18 : decode (yB m_X12_pairsBy) 18 = .ok (.if_icmp .ge 52, 3) := by decide +kernel
theorem d_X12_pairsBy_21 : decode (yB m_X12_pairsBy) 21 = .ok (.iload_n 2, 1) := by decide +kernel
theorem d_X12_pairsBy_22 : decode (yB m_X12_pairsBy) 22 = .ok (.aload_n 0, 1) := by decide +kernel
theorem d_X12_pairsBy_23 : decode (yB m_X12_pairsBy) 23 = .ok (.getfield 26, 3) := by decide +kernel
theorem d_X12_pairsBy_26 : decode (yB m_X12_pairsBy) 26 = .ok (.iload_n 3, 1) := by decide +kernel
theorem d_X12_pairsBy_27 : decode (yB m_X12_pairsBy) 27 = .ok (.iaload, 1) := by decide +kernel
theorem d_X12_pairsBy_28 : decode (yB m_X12_pairsBy) 28 = .ok (.aload_n 0, 1) := by decide +kernel
theorem d_X12_pairsBy_29 : decode (yB m_X12_pairsBy) 29 = .ok (.getfield 26, 3) := by decide +kernel
theorem d_X12_pairsBy_32 : decode (yB m_X12_pairsBy) 32 = .ok (.iload 4, 2) := by decide +kernel
theorem d_X12_pairsBy_34 : decode (yB m_X12_pairsBy) 34 = .ok (.iaload, 1) := by decide +kernel
theorem d_X12_pairsBy_35 : decode (yB m_X12_pairsBy) 35 = .ok (.ixor, 1) := by decide +kernel
theorem d_X12_pairsBy_36 : decode (yB m_X12_pairsBy) 36 = .ok (.aload_n 0, 1) := by decide +kernel
theorem d_X12_pairsBy_37 : decode (yB m_X12_pairsBy) 37 = .ok (.getfield 52, 3) := by decide +kernel
theorem d_X12_pairsBy_40 : decode (yB m_X12_pairsBy) 40 = .ok (.iload_n 1, 1) := by decide +kernel
theorem d_X12_pairsBy_41 : decode (yB m_X12_pairsBy) 41 = .ok (.iaload, 1) := by decide +kernel
theorem d_X12_pairsBy_42 : decode (yB m_X12_pairsBy) 42 = .ok (.iconst (-1), 1) := by decide +kernel
theorem d_X12_pairsBy_43 : decode (yB m_X12_pairsBy) 43 = .ok (.ixor, 1) := by decide +kernel
theorem d_X12_pairsBy_44 : decode (yB m_X12_pairsBy) 44 = .ok (.iand, 1) := by decide +kernel
theorem d_X12_pairsBy_45 : decode (yB m_X12_pairsBy) 45 = .ok (.invokestatic 293, 3) := by decide +kernel
theorem d_X12_pairsBy_48 : decode (yB m_X12_pairsBy) 48 = .ok (.iconst 2, 1) := by decide +kernel
theorem d_X12_pairsBy_49 : decode (yB m_X12_pairsBy) 49 = .ok (.aload_n 0, 1) := by decide +kernel
theorem d_X12_pairsBy_50 : decode (yB m_X12_pairsBy) 50 = .ok (.getfield 230, 3) := by decide +kernel
theorem d_X12_pairsBy_53 : decode (yB m_X12_pairsBy) 53 = .ok (.imul, 1) := by decide +kernel
theorem d_X12_pairsBy_54 : decode (yB m_X12_pairsBy) 54 = .ok (.if_icmp .gt 7, 3) := by decide +kernel
theorem d_X12_pairsBy_57 : decode (yB m_X12_pairsBy) 57 = .ok (.iconst 1, 1) := by decide +kernel
theorem d_X12_pairsBy_58 : decode (yB m_X12_pairsBy) 58 = .ok (.goto 4, 3) := by decide +kernel
theorem d_X12_pairsBy_61 : decode (yB m_X12_pairsBy) 61 = .ok (.iconst 0, 1) := by decide +kernel
theorem d_X12_pairsBy_62 : decode (yB m_X12_pairsBy) 62 = .ok (.iadd, 1) := by decide +kernel
theorem d_X12_pairsBy_63 : decode (yB m_X12_pairsBy) 63 = .ok (.istore_n 2, 1) := by decide +kernel
theorem d_X12_pairsBy_64 : decode (yB m_X12_pairsBy) 64 = .ok (.iinc 4 1, 3) := by decide +kernel
theorem d_X12_pairsBy_67 : decode (yB m_X12_pairsBy) 67 = .ok (.goto (-52), 3) := by decide +kernel
theorem d_X12_pairsBy_70 : decode (yB m_X12_pairsBy) 70 = .ok (.iinc 3 1, 3) := by decide +kernel
theorem d_X12_pairsBy_73 : decode (yB m_X12_pairsBy) 73 = .ok (.goto (-69), 3) := by decide +kernel
theorem d_X12_pairsBy_76 : decode (yB m_X12_pairsBy) 76 = .ok (.iload_n 2, 1) := by decide +kernel
theorem d_X12_pairsBy_77 : decode (yB m_X12_pairsBy) 77 = .ok (.ireturn, 1) := by decide +kernel
def fn_X12_pairsBy_15 (v1 : Int32) (D : zD) (k4 : Int32 → Int32 → Option Int32) : Nat → Int32 → Int32 → Int32 → Option Int32
  | 0, _, _, _ => none
  | n + 1, v2, v3, v4 => (if v3 ≤ v4 then ((k4 v2 (v3 + (1 : Int32)))) else (zck v3 12 <| zck v4 12 <| zck v1 500 <| (fn_X12_ones (((gI D 105 v3.toNatClampNeg) ^^^ (gI D 105 v4.toNatClampNeg)) &&& ((gI D 128 v1.toNatClampNeg) ^^^ (-1 : Int32)))).bind fun x6 => (if ((2 : Int32) * (gI D 102 34)) < x6 then (zlet (v2 + (0 : Int32)) fun x8 => ((fn_X12_pairsBy_15 v1 D k4 n) x8 v3 (v4 + (1 : Int32)))) else (zlet (v2 + (1 : Int32)) fun x9 => ((fn_X12_pairsBy_15 v1 D k4 n) x9 v3 (v4 + (1 : Int32)))))))
def fn_X12_pairsBy_4 (v1 : Int32) (D : zD) : Nat → Int32 → Int32 → Option Int32
  | 0, _, _ => none
  | n + 1, v2, v3 => (if (gI D 102 16) ≤ v3 then ((some v2)) else ((fn_X12_pairsBy_15 v1 D (fn_X12_pairsBy_4 v1 D n) zFU v2 v3 (0 : Int32))))
def fn_X12_pairsBy (v1 : Int32) (D : zD) : Option Int32 := (fn_X12_pairsBy_4 v1 D zFU (0 : Int32) (0 : Int32))
theorem s_X12_pairsBy_15 {X : zX} {Sh : zSh} {d : Nat} (hst : (zl X).stackTraces = false) (h0 : zSh0 Sh) (hd : 1 ≤ d) {v1 : Int32} (D : zD) (k4 : Int32 → Int32 → Option Int32) (hk4 : ∀ (v2 : Int32) (v3 : Int32) , Rn X m_X12_pairsBy (d + 1) 4 [(0, .ref 102), (1, .int v1), (2, .int v2), (3, .int v3)] [] (Sh, D) ((oP Sh D) (k4 v2 v3))) : ∀ (n : Nat) (v2 : Int32) (v3 : Int32) (v4 : Int32) , Rn X m_X12_pairsBy (d + 1) 15 [(0, .ref 102), (1, .int v1), (2, .int v2), (3, .int v3), (4, .int v4)] [] (Sh, D) ((oP Sh D) (fn_X12_pairsBy_15 v1 D k4 n v2 v3 v4)) := by
  intro n
  induction n with
  | zero => intro v2 v3 v4; exact Rn_none rfl
  | succ n hk15 =>
    intro v2 v3 v4
    rw [fn_X12_pairsBy_15]
    refine r_iload (pc := 15) 4 d_X12_pairsBy_15 rfl ?_
    refine r_iload_n (pc := 17) 3 d_X12_pairsBy_17 rfl rfl ?_
    refine r_icmp_ge (f := (oP Sh D)) (pc := 18) 70 d_X12_pairsBy_18 (by decide) (fun c2 => ?_) (fun c2 => ?_)
    · refine r_iinc (pc := 70) ((v3 + (1 : Int32))) 3 (ls' := [(3, .int (v3 + (1 : Int32))), (0, .ref 102), (1, .int v1), (2, .int v2), (4, .int v4)]) d_X12_pairsBy_70 rfl rfl (Nat.le_of_ble_eq_true rfl) rfl ?_
      refine r_goto (pc := 73) 4 d_X12_pairsBy_73 (by decide) ?_
      refine r_pick [1, 2, 3, 0] (ls' := [(0, .ref 102), (1, .int v1), (2, .int v2), (3, .int (v3 + (1 : Int32)))]) rfl ?_
      exact hk4 v2 (v3 + (1 : Int32)) 
    · refine r_iload_n (pc := 21) 2 d_X12_pairsBy_21 rfl rfl ?_
      refine r_aload_n (pc := 22) 0 d_X12_pairsBy_22 rfl rfl ?_
      refine r_getR (pc := 23) g_X12_26 (K_102 h0) rfl (R_102_19 h0) d_X12_pairsBy_23 ?_
      refine r_iload_n (pc := 26) 3 d_X12_pairsBy_26 rfl rfl ?_
      refine r_ck (f := (oP Sh D)) rfl (fun hc3 => ?_)
      refine q_iald (pc := 27) (j := v3.toNatClampNeg) (K_105 h0) hc3 rfl d_X12_pairsBy_27 ?_
      refine r_aload_n (pc := 28) 0 d_X12_pairsBy_28 rfl rfl ?_
      refine r_getR (pc := 29) g_X12_26 (K_102 h0) rfl (R_102_19 h0) d_X12_pairsBy_29 ?_
      refine r_iload (pc := 32) 4 d_X12_pairsBy_32 rfl ?_
      refine r_ck (f := (oP Sh D)) rfl (fun hc4 => ?_)
      refine q_iald (pc := 34) (j := v4.toNatClampNeg) (K_105 h0) hc4 rfl d_X12_pairsBy_34 ?_
      refine r_ixor (pc := 35) d_X12_pairsBy_35 ?_
      refine r_aload_n (pc := 36) 0 d_X12_pairsBy_36 rfl rfl ?_
      refine r_getR (pc := 37) g_X12_52 (K_102 h0) rfl (R_102_28 h0) d_X12_pairsBy_37 ?_
      refine r_iload_n (pc := 40) 1 d_X12_pairsBy_40 rfl rfl ?_
      refine r_ck (f := (oP Sh D)) rfl (fun hc5 => ?_)
      refine q_iald (pc := 41) (j := v1.toNatClampNeg) (K_128 h0) hc5 rfl d_X12_pairsBy_41 ?_
      refine r_iconst (pc := 42) (-1 : Int32) d_X12_pairsBy_42 rfl ?_
      refine r_ixor (pc := 43) d_X12_pairsBy_43 ?_
      refine r_iand (pc := 44) d_X12_pairsBy_44 ?_
      refine q_cP (f := (oP Sh D)) (av := [.int (((gI D 105 v3.toNatClampNeg) ^^^ (gI D 105 v4.toNatClampNeg)) &&& ((gI D 128 v1.toNatClampNeg) ^^^ (-1 : Int32)))]) (st := [.int v2]) (z_runS ck_X12_ones rfl ml_X12_293 cs_X12_ones rfl (Nat.le_of_ble_eq_true rfl) d_X12_pairsBy_45) (s_X12_ones hst h0 (by omega)) kp_P (fun x6 _ => ?_)
      refine r_iconst (pc := 48) (2 : Int32) d_X12_pairsBy_48 rfl ?_
      refine r_aload_n (pc := 49) 0 d_X12_pairsBy_49 rfl rfl ?_
      refine q_gI (pc := 50) g_X12_230 (K_102 h0) rfl d_X12_pairsBy_50 ?_
      refine r_imul (pc := 53) d_X12_pairsBy_53 ?_
      refine r_icmp_gt (f := (oP Sh D)) (pc := 54) 61 d_X12_pairsBy_54 (by decide) (fun c7 => ?_) (fun c7 => ?_)
      · refine r_iconst (pc := 61) (0 : Int32) d_X12_pairsBy_61 rfl ?_
        refine r_iadd (pc := 62) d_X12_pairsBy_62 ?_
        refine r_leti (f := (oP Sh D)) (fun x8 => ?_)
        refine r_istore_n (pc := 63) (ls' := [(2, .int x8), (0, .ref 102), (1, .int v1), (3, .int v3), (4, .int v4)]) d_X12_pairsBy_63 rfl (Nat.le_of_ble_eq_true rfl) rfl ?_
        refine r_iinc (pc := 64) ((v4 + (1 : Int32))) 4 (ls' := [(4, .int (v4 + (1 : Int32))), (2, .int x8), (0, .ref 102), (1, .int v1), (3, .int v3)]) d_X12_pairsBy_64 rfl rfl (Nat.le_of_ble_eq_true rfl) rfl ?_
        refine r_goto (pc := 67) 15 d_X12_pairsBy_67 (by decide) ?_
        refine r_pick [2, 3, 1, 4, 0] (ls' := [(0, .ref 102), (1, .int v1), (2, .int x8), (3, .int v3), (4, .int (v4 + (1 : Int32)))]) rfl ?_
        exact hk15 x8 v3 (v4 + (1 : Int32)) 
      · refine r_iconst (pc := 57) (1 : Int32) d_X12_pairsBy_57 rfl ?_
        refine r_goto (pc := 58) 62 d_X12_pairsBy_58 (by decide) ?_
        refine r_iadd (pc := 62) d_X12_pairsBy_62 ?_
        refine r_leti (f := (oP Sh D)) (fun x9 => ?_)
        refine r_istore_n (pc := 63) (ls' := [(2, .int x9), (0, .ref 102), (1, .int v1), (3, .int v3), (4, .int v4)]) d_X12_pairsBy_63 rfl (Nat.le_of_ble_eq_true rfl) rfl ?_
        refine r_iinc (pc := 64) ((v4 + (1 : Int32))) 4 (ls' := [(4, .int (v4 + (1 : Int32))), (2, .int x9), (0, .ref 102), (1, .int v1), (3, .int v3)]) d_X12_pairsBy_64 rfl rfl (Nat.le_of_ble_eq_true rfl) rfl ?_
        refine r_goto (pc := 67) 15 d_X12_pairsBy_67 (by decide) ?_
        refine r_pick [2, 3, 1, 4, 0] (ls' := [(0, .ref 102), (1, .int v1), (2, .int x9), (3, .int v3), (4, .int (v4 + (1 : Int32)))]) rfl ?_
        exact hk15 x9 v3 (v4 + (1 : Int32)) 
theorem s_X12_pairsBy_4 {X : zX} {Sh : zSh} {d : Nat} (hst : (zl X).stackTraces = false) (h0 : zSh0 Sh) (hd : 1 ≤ d) {v1 : Int32} (D : zD) : ∀ (n : Nat) (v2 : Int32) (v3 : Int32) , Rn X m_X12_pairsBy (d + 1) 4 [(0, .ref 102), (1, .int v1), (2, .int v2), (3, .int v3)] [] (Sh, D) ((oP Sh D) (fn_X12_pairsBy_4 v1 D n v2 v3)) := by
  intro n
  induction n with
  | zero => intro v2 v3; exact Rn_none rfl
  | succ n hk4 =>
    intro v2 v3
    rw [fn_X12_pairsBy_4]
    refine r_iload_n (pc := 4) 3 d_X12_pairsBy_4 rfl rfl ?_
    refine r_aload_n (pc := 5) 0 d_X12_pairsBy_5 rfl rfl ?_
    refine q_gI (pc := 6) g_X12_224 (K_102 h0) rfl d_X12_pairsBy_6 ?_
    refine r_icmp_ge (f := (oP Sh D)) (pc := 9) 76 d_X12_pairsBy_9 (by decide) (fun c1 => ?_) (fun c1 => ?_)
    · refine r_iload_n (pc := 76) 2 d_X12_pairsBy_76 rfl rfl ?_
      exact r_iret (pc := 77) rfl d_X12_pairsBy_77
    · refine r_iconst (pc := 12) (0 : Int32) d_X12_pairsBy_12 rfl ?_
      refine r_istore (pc := 13) (ls' := [(4, .int (0 : Int32)), (0, .ref 102), (1, .int v1), (2, .int v2), (3, .int v3)]) d_X12_pairsBy_13 (Nat.le_of_ble_eq_true rfl) rfl ?_
      refine r_pick [1, 2, 3, 4, 0] (ls' := [(0, .ref 102), (1, .int v1), (2, .int v2), (3, .int v3), (4, .int (0 : Int32))]) rfl ?_
      exact s_X12_pairsBy_15 hst h0 hd D (fn_X12_pairsBy_4 v1 D n) hk4 zFU  v2 v3 (0 : Int32)
theorem s_X12_pairsBy {X : zX} {Sh : zSh} {d : Nat} (hst : (zl X).stackTraces = false) (h0 : zSh0 Sh) (hd : 2 ≤ d) {v1 : Int32} {D : zD} : Sd X m_X12_pairsBy d [.ref 102, .int v1] (Sh, D) ((oP Sh D) (fn_X12_pairsBy v1 D)) := by
  obtain ⟨d, rfl⟩ : ∃ e, d = e + 1 := ⟨d - 1, by omega⟩
  replace hd : 1 ≤ d := by omega
  refine z_body ck_X12_pairsBy rfl (Nat.le_of_ble_eq_true rfl) rfl hst ?_
  rw [fn_X12_pairsBy]
  show Rn X m_X12_pairsBy (d + 1) 0 [(0, .ref 102), (1, .int v1)] [] (Sh, D) _
  refine r_iconst (pc := 0) (0 : Int32) d_X12_pairsBy_0 rfl ?_
  refine r_istore_n (pc := 1) (ls' := [(2, .int (0 : Int32)), (0, .ref 102), (1, .int v1)]) d_X12_pairsBy_1 rfl (Nat.le_of_ble_eq_true rfl) rfl ?_
  refine r_iconst (pc := 2) (0 : Int32) d_X12_pairsBy_2 rfl ?_
  refine r_istore_n (pc := 3) (ls' := [(3, .int (0 : Int32)), (2, .int (0 : Int32)), (0, .ref 102), (1, .int v1)]) d_X12_pairsBy_3 rfl (Nat.le_of_ble_eq_true rfl) rfl ?_
  refine r_pick [2, 3, 1, 0] (ls' := [(0, .ref 102), (1, .int v1), (2, .int (0 : Int32)), (3, .int (0 : Int32))]) rfl ?_
  exact s_X12_pairsBy_4 hst h0 hd D zFU  (0 : Int32) (0 : Int32)
/-! CoveredSignsModel.blind -/
theorem d_X12_blind_0 : decode (yB m_X12_blind) 0 = .ok (.aload_n 0, 1) := by decide +kernel
theorem d_X12_blind_1 : decode (yB m_X12_blind) 1 = .ok (.iconst 0, 1) := by decide +kernel
theorem d_X12_blind_2 : decode (yB m_X12_blind) 2 = .ok (.putfield 113, 3) := by decide +kernel
theorem d_X12_blind_5 : decode (yB m_X12_blind) 5 = .ok (.aload_n 0, 1) := by decide +kernel
theorem d_X12_blind_6 : decode (yB m_X12_blind) 6 = .ok (.iload_n 1, 1) := by decide +kernel
theorem d_X12_blind_7 : decode (yB m_X12_blind) 7 = .ok (.iconst 0, 1) := by decide +kernel
theorem d_X12_blind_8 : decode (yB m_X12_blind) 8 = .ok (.iconst 1, 1) := by decide +kernel
theorem d_X12_blind_9 : decode (yB m_X12_blind) 9 = .ok (.invokestatic 147, 3) := by decide +kernel
theorem d_X12_blind_12 : decode (yB m_X12_blind) 12 = .ok (.ifCond .ne 7, 3) := by decide +kernel
theorem d_X12_blind_15 : decode (yB m_X12_blind) 15 = .ok (.iconst 1, 1) := by decide +kernel
theorem d_X12_blind_16 : decode (yB m_X12_blind) 16 = .ok (.goto 4, 3) := by decide +kernel
theorem d_X12_blind_19 : decode (yB m_X12_blind) 19 = .ok (.iconst 0, 1) := by decide +kernel
theorem d_X12_blind_20 : decode (yB m_X12_blind) 20 = .ok (.iconst 1, 1) := by decide +kernel
theorem d_X12_blind_21 : decode (yB m_X12_blind) 21 = .ok (.invokevirtual 214, 3) := by decide +kernel
theorem d_X12_blind_24 : decode (yB m_X12_blind) 24 = .ok (.ifCond .eq 5, 3) := by decide +kernel
theorem d_X12_blind_27 : decode (yB m_X12_blind) 27 = .ok (.iconst 0, 1) := by decide +kernel
theorem d_X12_blind_28 : decode (yB m_X12_blind) 28 = .ok (.ireturn, 1) := by decide +kernel
theorem d_X12_blind_29 : decode (yB m_X12_blind) 29 = .ok (.iconst 0, 1) := by decide +kernel
theorem d_X12_blind_30 : decode (yB m_X12_blind) 30 = .ok (.istore_n 2, 1) := by decide +kernel
theorem d_X12_blind_31 : decode (yB m_X12_blind) 31 = .ok (.iconst 1, 1) := by decide +kernel
theorem d_X12_blind_32 : decode (yB m_X12_blind) 32 = .ok (.istore_n 3, 1) := by decide +kernel
theorem d_X12_blind_33 : decode (yB m_X12_blind) 33 = .ok (.iload_n 3, 1) := by decide +kernel
theorem d_X12_blind_34 : decode (yB m_X12_blind) 34 = .ok (.aload_n 0, 1) := by decide +kernel
theorem d_X12_blind_35 : decode (yB m_X12_blind) 35 = .ok (.getfield 49, 3) := by decide +kernel
theorem d_X12_blind_38 : decode (yB m_X12_blind) 38 = .ok (.if_icmp .ge 24, 3) := by decide +kernel
theorem d_X12_blind_41 : decode (yB m_X12_blind) 41 = .ok (.aload_n 0, 1) := by decide +kernel
theorem d_X12_blind_42 : decode (yB m_X12_blind) 42 = .ok (.iload_n 3, 1) := by decide +kernel
theorem d_X12_blind_43 : decode (yB m_X12_blind) 43 = .ok (.invokevirtual 317, 3) := by decide +kernel
theorem d_X12_blind_46 : decode (yB m_X12_blind) 46 = .ok (.aload_n 0, 1) := by decide +kernel
theorem d_X12_blind_47 : decode (yB m_X12_blind) 47 = .ok (.iload_n 2, 1) := by decide +kernel
theorem d_X12_blind_48 : decode (yB m_X12_blind) 48 = .ok (.invokevirtual 317, 3) := by decide +kernel
theorem d_X12_blind_51 : decode (yB m_X12_blind) 51 = .ok (.if_icmp .le 5, 3) := by decide +kernel
theorem d_X12_blind_54 : decode (yB m_X12_blind) 54 = .ok (.iload_n 3, 1) := by decide +kernel
theorem d_X12_blind_55 : decode (yB m_X12_blind) 55 = .ok (.istore_n 2, 1) := by decide +kernel
theorem d_X12_blind_56 : decode (yB m_X12_blind) 56 = .ok (.iinc 3 1, 3) := by decide +kernel
theorem d_X12_blind_59 : decode (yB m_X12_blind) 59 = .ok (.goto (-26), 3) := by decide +kernel
theorem d_X12_blind_62 : decode (yB m_X12_blind) 62 = .ok (.iload_n 1, 1) := by decide +kernel
theorem d_X12_blind_63 : decode (yB m_X12_blind) 63 = .ok (.ifCond .ne 7, 3) := by decide +kernel
theorem d_X12_blind_66 : decode (yB m_X12_blind) 66 = .ok (.iload_n 2, 1) := by decide +kernel
theorem d_X12_blind_67 : decode (yB m_X12_blind) 67 = .ok (.goto 8, 3) := by decide +kernel
theorem d_X12_blind_70 : decode (yB m_X12_blind) 70 = .ok (.aload_n 0, 1) := by decide +kernel
theorem d_X12_blind_71 : decode (yB m_X12_blind) 71 = .ok (.iload_n 2, 1) := by decide +kernel
theorem d_X12_blind_72 : decode (yB m_X12_blind) 72 = .ok (.invokevirtual 317, 3) := by decide +kernel
theorem d_X12_blind_75 : decode (yB m_X12_blind) 75 = .ok (.ireturn, 1) := by decide +kernel
def fn_X12_blind_62 (v1 : Int32) (v2 : Int32) (D : zD) : Option (Int32 × zD) := (if v1 = 0 then ((some (v2, D))) else ((fn_X12_pairsBy v2 D).bind fun x8 => (some (x8, D))))
def fn_X12_blind_33 (v1 : Int32) : Nat → Int32 → Int32 → zD → Option (Int32 × zD)
  | 0, _, _, _ => none
  | n + 1, v2, v3, D => (if (gI D 102 26) ≤ v3 then ((fn_X12_blind_62 v1 v2 D)) else ((fn_X12_pairsBy v3 D).bind fun x9 => (fn_X12_pairsBy v2 D).bind fun x10 => (if x9 ≤ x10 then (((fn_X12_blind_33 v1 n) v2 (v3 + (1 : Int32)) D)) else (((fn_X12_blind_33 v1 n) v3 (v3 + (1 : Int32)) D)))))
def fn_X12_blind_20 (v1 : Int32) (w1 : Int32) (D : zD) : Option (Int32 × zD) := (fn_X12_bad w1 (1 : Int32) D).bind fun q4 => (if q4.1 = 0 then ((fn_X12_blind_33 v1 zFU (0 : Int32) (1 : Int32) q4.2)) else ((some ((0 : Int32), q4.2))))
def fn_X12_blind (v1 : Int32) (D : zD) : Option (Int32 × zD) := zlet (sI D 102 0 (0 : Int32)) fun D1 => (fn_X12_in v1 (0 : Int32) (1 : Int32)).bind fun x2 => (if x2 = 0 then ((fn_X12_blind_20 v1 (1 : Int32) D1)) else ((fn_X12_blind_20 v1 (0 : Int32) D1)))
theorem s_X12_blind_62 {X : zX} {Sh : zSh} {d : Nat} (hst : (zl X).stackTraces = false) (h0 : zSh0 Sh) (hd : 2 ≤ d) {v1 : Int32} (v2 : Int32) (D : zD)  : Rn X m_X12_blind (d + 1) 62 [(0, .ref 102), (1, .int v1), (2, .int v2)] [] (Sh, D) ((oI Sh) (fn_X12_blind_62 v1 v2 D)) := by
  rw [fn_X12_blind_62]
  refine r_iload_n (pc := 62) 1 d_X12_blind_62 rfl rfl ?_
  refine r_if_ne (f := (oI Sh)) (pc := 63) 70 d_X12_blind_63 (by decide) (fun c7 => ?_) (fun c7 => ?_)
  · refine r_aload_n (pc := 70) 0 d_X12_blind_70 rfl rfl ?_
    refine r_iload_n (pc := 71) 2 d_X12_blind_71 rfl rfl ?_
    refine q_cP (f := (oI Sh)) (av := [.ref 102, .int v2]) (st := []) (z_runV ck_X12_pairsBy rfl ml_X12_317 ci_X12_pairsBy cv_X12_pairsBy (K_102 h0) (ci := 12) rfl rfl (Nat.le_of_ble_eq_true rfl) d_X12_blind_72) (s_X12_pairsBy hst h0 (by omega)) kp_I (fun x8 _ => ?_)
    exact r_iret (pc := 75) rfl d_X12_blind_75
  · refine r_iload_n (pc := 66) 2 d_X12_blind_66 rfl rfl ?_
    refine r_goto (pc := 67) 75 d_X12_blind_67 (by decide) ?_
    exact r_iret (pc := 75) rfl d_X12_blind_75
theorem s_X12_blind_33 {X : zX} {Sh : zSh} {d : Nat} (hst : (zl X).stackTraces = false) (h0 : zSh0 Sh) (hd : 2 ≤ d) {v1 : Int32} : ∀ (n : Nat) (v2 : Int32) (v3 : Int32) (D : zD) , Rn X m_X12_blind (d + 1) 33 [(0, .ref 102), (1, .int v1), (2, .int v2), (3, .int v3)] [] (Sh, D) ((oI Sh) (fn_X12_blind_33 v1 n v2 v3 D)) := by
  intro n
  induction n with
  | zero => intro v2 v3 D; exact Rn_none rfl
  | succ n hk33 =>
    intro v2 v3 D
    rw [fn_X12_blind_33]
    refine r_iload_n (pc := 33) 3 d_X12_blind_33 rfl rfl ?_
    refine r_aload_n (pc := 34) 0 d_X12_blind_34 rfl rfl ?_
    refine q_gI (pc := 35) g_X12_49 (K_102 h0) rfl d_X12_blind_35 ?_
    refine r_icmp_ge (f := (oI Sh)) (pc := 38) 62 d_X12_blind_38 (by decide) (fun c6 => ?_) (fun c6 => ?_)
    · refine r_pick [0, 1, 2] (ls' := [(0, .ref 102), (1, .int v1), (2, .int v2)]) rfl ?_
      exact s_X12_blind_62 hst h0 hd v2 D
    · refine r_aload_n (pc := 41) 0 d_X12_blind_41 rfl rfl ?_
      refine r_iload_n (pc := 42) 3 d_X12_blind_42 rfl rfl ?_
      refine q_cP (f := (oI Sh)) (av := [.ref 102, .int v3]) (st := []) (z_runV ck_X12_pairsBy rfl ml_X12_317 ci_X12_pairsBy cv_X12_pairsBy (K_102 h0) (ci := 12) rfl rfl (Nat.le_of_ble_eq_true rfl) d_X12_blind_43) (s_X12_pairsBy hst h0 (by omega)) kp_I (fun x9 _ => ?_)
      refine r_aload_n (pc := 46) 0 d_X12_blind_46 rfl rfl ?_
      refine r_iload_n (pc := 47) 2 d_X12_blind_47 rfl rfl ?_
      refine q_cP (f := (oI Sh)) (av := [.ref 102, .int v2]) (st := [.int x9]) (z_runV ck_X12_pairsBy rfl ml_X12_317 ci_X12_pairsBy cv_X12_pairsBy (K_102 h0) (ci := 12) rfl rfl (Nat.le_of_ble_eq_true rfl) d_X12_blind_48) (s_X12_pairsBy hst h0 (by omega)) kp_I (fun x10 _ => ?_)
      refine r_icmp_le (f := (oI Sh)) (pc := 51) 56 d_X12_blind_51 (by decide) (fun c11 => ?_) (fun c11 => ?_)
      · refine r_iinc (pc := 56) ((v3 + (1 : Int32))) 3 (ls' := [(3, .int (v3 + (1 : Int32))), (0, .ref 102), (1, .int v1), (2, .int v2)]) d_X12_blind_56 rfl rfl (Nat.le_of_ble_eq_true rfl) rfl ?_
        refine r_goto (pc := 59) 33 d_X12_blind_59 (by decide) ?_
        refine r_pick [1, 2, 3, 0] (ls' := [(0, .ref 102), (1, .int v1), (2, .int v2), (3, .int (v3 + (1 : Int32)))]) rfl ?_
        exact hk33 v2 (v3 + (1 : Int32)) D 
      · refine r_iload_n (pc := 54) 3 d_X12_blind_54 rfl rfl ?_
        refine r_istore_n (pc := 55) (ls' := [(2, .int v3), (0, .ref 102), (1, .int v1), (3, .int v3)]) d_X12_blind_55 rfl (Nat.le_of_ble_eq_true rfl) rfl ?_
        refine r_iinc (pc := 56) ((v3 + (1 : Int32))) 3 (ls' := [(3, .int (v3 + (1 : Int32))), (2, .int v3), (0, .ref 102), (1, .int v1)]) d_X12_blind_56 rfl rfl (Nat.le_of_ble_eq_true rfl) rfl ?_
        refine r_goto (pc := 59) 33 d_X12_blind_59 (by decide) ?_
        refine r_pick [2, 3, 1, 0] (ls' := [(0, .ref 102), (1, .int v1), (2, .int v3), (3, .int (v3 + (1 : Int32)))]) rfl ?_
        exact hk33 v3 (v3 + (1 : Int32)) D 
theorem s_X12_blind_20 {X : zX} {Sh : zSh} {d : Nat} (hst : (zl X).stackTraces = false) (h0 : zSh0 Sh) (hd : 2 ≤ d) {v1 : Int32} (w1 : Int32) (D : zD)  : Rn X m_X12_blind (d + 1) 20 [(0, .ref 102), (1, .int v1)] [.int w1, .ref 102] (Sh, D) ((oI Sh) (fn_X12_blind_20 v1 w1 D)) := by
  rw [fn_X12_blind_20]
  refine r_iconst (pc := 20) (1 : Int32) d_X12_blind_20 rfl ?_
  refine q_cI (f := (oI Sh)) (av := [.ref 102, .int w1, .int (1 : Int32)]) (st := []) (z_runV ck_X12_bad rfl ml_X12_214 ci_X12_bad cv_X12_bad (K_102 h0) (ci := 12) rfl rfl (Nat.le_of_ble_eq_true rfl) d_X12_blind_21) (s_X12_bad hst h0 (by omega)) kp_I (fun q4 _ => ?_)
  refine r_if_eq (f := (oI Sh)) (pc := 24) 29 d_X12_blind_24 (by decide) (fun c5 => ?_) (fun c5 => ?_)
  · refine r_iconst (pc := 29) (0 : Int32) d_X12_blind_29 rfl ?_
    refine r_istore_n (pc := 30) (ls' := [(2, .int (0 : Int32)), (0, .ref 102), (1, .int v1)]) d_X12_blind_30 rfl (Nat.le_of_ble_eq_true rfl) rfl ?_
    refine r_iconst (pc := 31) (1 : Int32) d_X12_blind_31 rfl ?_
    refine r_istore_n (pc := 32) (ls' := [(3, .int (1 : Int32)), (2, .int (0 : Int32)), (0, .ref 102), (1, .int v1)]) d_X12_blind_32 rfl (Nat.le_of_ble_eq_true rfl) rfl ?_
    refine r_pick [2, 3, 1, 0] (ls' := [(0, .ref 102), (1, .int v1), (2, .int (0 : Int32)), (3, .int (1 : Int32))]) rfl ?_
    exact s_X12_blind_33 hst h0 hd zFU  (0 : Int32) (1 : Int32) q4.2
  · refine r_iconst (pc := 27) (0 : Int32) d_X12_blind_27 rfl ?_
    exact r_iret (pc := 28) rfl d_X12_blind_28
theorem s_X12_blind {X : zX} {Sh : zSh} {d : Nat} (hst : (zl X).stackTraces = false) (h0 : zSh0 Sh) (hd : 3 ≤ d) {v1 : Int32} {D : zD} : Sd X m_X12_blind d [.ref 102, .int v1] (Sh, D) ((oI Sh) (fn_X12_blind v1 D)) := by
  obtain ⟨d, rfl⟩ : ∃ e, d = e + 1 := ⟨d - 1, by omega⟩
  replace hd : 2 ≤ d := by omega
  refine z_body ck_X12_blind rfl (Nat.le_of_ble_eq_true rfl) rfl hst ?_
  rw [fn_X12_blind]
  show Rn X m_X12_blind (d + 1) 0 [(0, .ref 102), (1, .int v1)] [] (Sh, D) _
  refine r_aload_n (pc := 0) 0 d_X12_blind_0 rfl rfl ?_
  refine r_iconst (pc := 1) (0 : Int32) d_X12_blind_1 rfl ?_
  refine r_putI (pc := 2) p_X12_113 (K_102 h0) rfl (Or.inl rfl) d_X12_blind_2 ?_
  refine r_letD (f := (oI Sh)) (fun D1 => ?_)
  refine r_aload_n (pc := 5) 0 d_X12_blind_5 rfl rfl ?_
  refine r_iload_n (pc := 6) 1 d_X12_blind_6 rfl rfl ?_
  refine r_iconst (pc := 7) (0 : Int32) d_X12_blind_7 rfl ?_
  refine r_iconst (pc := 8) (1 : Int32) d_X12_blind_8 rfl ?_
  refine q_cP (f := (oI Sh)) (av := [.int v1, .int (0 : Int32), .int (1 : Int32)]) (st := [.ref 102]) (z_runS ck_X12_in rfl ml_X12_147 cs_X12_in rfl (Nat.le_of_ble_eq_true rfl) d_X12_blind_9) (s_X12_in hst h0 (by omega)) kp_I (fun x2 _ => ?_)
  refine r_if_ne (f := (oI Sh)) (pc := 12) 19 d_X12_blind_12 (by decide) (fun c3 => ?_) (fun c3 => ?_)
  · refine r_iconst (pc := 19) (0 : Int32) d_X12_blind_19 rfl ?_
    refine r_pick [0, 1] (ls' := [(0, .ref 102), (1, .int v1)]) rfl ?_
    exact s_X12_blind_20 hst h0 hd (0 : Int32) D1
  · refine r_iconst (pc := 15) (1 : Int32) d_X12_blind_15 rfl ?_
    refine r_goto (pc := 16) 20 d_X12_blind_16 (by decide) ?_
    refine r_pick [0, 1] (ls' := [(0, .ref 102), (1, .int v1)]) rfl ?_
    exact s_X12_blind_20 hst h0 hd (1 : Int32) D1
/-! CoveredSignsModel.mayBe -/
theorem d_X12_mayBe_0 : decode (yB m_X12_mayBe) 0 = .ok (.iconst 0, 1) := by decide +kernel
theorem d_X12_mayBe_1 : decode (yB m_X12_mayBe) 1 = .ok (.istore_n 3, 1) := by decide +kernel
theorem d_X12_mayBe_2 : decode (yB m_X12_mayBe) 2 = .ok (.iconst 0, 1) := by decide +kernel
theorem d_X12_mayBe_3 : decode (yB m_X12_mayBe) 3 = .ok (.istore 4, 2) := by decide +kernel
theorem d_X12_mayBe_5 : decode (yB m_X12_mayBe) 5 = .ok (.iload 4, 2) := by decide +kernel
theorem d_X12_mayBe_7 : decode (yB m_X12_mayBe) 7 = .ok (.aload_n 0, 1) := by decide +kernel
theorem d_X12_mayBe_8 : decode (yB m_X12_mayBe) 8 = .ok (.getfield 224, 3) := by decide +kernel
theorem d_X12_mayBe_11 : decode (yB m_X12_mayBe) 11 = .ok (.if_icmp .ge 43, 3) := by decide +kernel
theorem d_X12_mayBe_14 : decode (yB m_X12_mayBe) 14 = .ok (.iload_n 3, 1) := by decide +kernel
theorem d_X12_mayBe_15 : decode (yB m_X12_mayBe) 15 = .ok (.aload_n 0, 1) := by decide +kernel
theorem d_X12_mayBe_16 : decode (yB m_X12_mayBe) 16 = .ok (.getfield 26, 3) := by decide +kernel
theorem d_X12_mayBe_19 : decode (yB m_X12_mayBe) 19 = .ok (.iload 4, 2) := by decide +kernel
theorem d_X12_mayBe_21 : decode (yB m_X12_mayBe) 21 = .ok (.iaload, 1) := by decide +kernel
theorem d_X12_mayBe_22 : decode (yB m_X12_mayBe) 22 = .ok (.iload_n 2, 1) := by decide +kernel
theorem d_X12_mayBe_23 : decode (yB m_X12_mayBe) 23 = .ok (.ixor, 1) := by decide +kernel
theorem d_X12_mayBe_24 : decode (yB m_X12_mayBe) 24 = .ok (.iload_n 1, 1) := by decide +kernel
theorem d_X12_mayBe_25 : decode (yB m_X12_mayBe) 25 = .ok (.iconst (-1), 1) := by decide +kernel
theorem d_X12_mayBe_26 : decode (yB m_X12_mayBe) 26 = .ok (.ixor, 1) := by decide +kernel
theorem d_X12_mayBe_27 : decode (yB m_X12_mayBe) 27 = .ok (.iand, 1) := by decide +kernel
theorem d_X12_mayBe_28 : decode (yB m_X12_mayBe) 28 = .ok (.invokestatic 293, 3) := by decide +kernel
theorem d_X12_mayBe_31 : decode (yB m_X12_mayBe) 31 = .ok (.aload_n 0, 1) := by decide +kernel
theorem d_X12_mayBe_32 : decode (yB m_X12_mayBe) 32 = .ok (.getfield 230, 3) := by decide +kernel
theorem d_X12_mayBe_35 : decode (yB m_X12_mayBe) 35 = .ok (.if_icmp .gt 10, 3) := by decide +kernel
theorem d_X12_mayBe_38 : decode (yB m_X12_mayBe) 38 = .ok (.iconst 1, 1) := by decide +kernel
theorem d_X12_mayBe_39 : decode (yB m_X12_mayBe) 39 = .ok (.iload 4, 2) := by decide +kernel
theorem d_X12_mayBe_41 : decode (yB m_X12_mayBe) 41 = .ok (.ishl, 1) := by decide +kernel
theorem d_X12_mayBe_42 : decode (yB m_X12_mayBe) 42 = .ok (.goto 4, 3) := by decide +kernel
theorem d_X12_mayBe_45 : decode (yB m_X12_mayBe) 45 = .ok (.iconst 0, 1) := by decide +kernel
theorem d_X12_mayBe_46 : decode (yB m_X12_mayBe) 46 = .ok (.ior, 1) := by decide +kernel
theorem d_X12_mayBe_47 : decode (yB m_X12_mayBe) 47 = .ok (.istore_n 3, 1) := by decide +kernel
theorem d_X12_mayBe_48 : decode (yB m_X12_mayBe) 48 = .ok (.iinc 4 1, 3) := by decide +kernel
theorem d_X12_mayBe_51 : decode (yB m_X12_mayBe) 51 = .ok (.goto (-46), 3) := by decide +kernel
theorem d_X12_mayBe_54 : decode (yB m_X12_mayBe) 54 = .ok (.iload_n 3, 1) := by decide +kernel
theorem d_X12_mayBe_55 : decode (yB m_X12_mayBe) 55 = .ok (.ireturn, 1) := by decide +kernel
def fn_X12_mayBe_5 (v1 : Int32) (v2 : Int32) (D : zD) : Nat → Int32 → Int32 → Option Int32
  | 0, _, _ => none
  | n + 1, v3, v4 => (if (gI D 102 16) ≤ v4 then ((some v3)) else (zck v4 12 <| (fn_X12_ones (((gI D 105 v4.toNatClampNeg) ^^^ v2) &&& (v1 ^^^ (-1 : Int32)))).bind fun x3 => (if (gI D 102 34) < x3 then (zlet (v3 ||| (0 : Int32)) fun x5 => ((fn_X12_mayBe_5 v1 v2 D n) x5 (v4 + (1 : Int32)))) else (zlet (v3 ||| ((1 : Int32) <<< (v4 &&& 31))) fun x6 => ((fn_X12_mayBe_5 v1 v2 D n) x6 (v4 + (1 : Int32)))))))
def fn_X12_mayBe (v1 : Int32) (v2 : Int32) (D : zD) : Option Int32 := (fn_X12_mayBe_5 v1 v2 D zFU (0 : Int32) (0 : Int32))
theorem s_X12_mayBe_5 {X : zX} {Sh : zSh} {d : Nat} (hst : (zl X).stackTraces = false) (h0 : zSh0 Sh) (hd : 1 ≤ d) {v1 : Int32} {v2 : Int32} (D : zD) : ∀ (n : Nat) (v3 : Int32) (v4 : Int32) , Rn X m_X12_mayBe (d + 1) 5 [(0, .ref 102), (1, .int v1), (2, .int v2), (3, .int v3), (4, .int v4)] [] (Sh, D) ((oP Sh D) (fn_X12_mayBe_5 v1 v2 D n v3 v4)) := by
  intro n
  induction n with
  | zero => intro v3 v4; exact Rn_none rfl
  | succ n hk5 =>
    intro v3 v4
    rw [fn_X12_mayBe_5]
    refine r_iload (pc := 5) 4 d_X12_mayBe_5 rfl ?_
    refine r_aload_n (pc := 7) 0 d_X12_mayBe_7 rfl rfl ?_
    refine q_gI (pc := 8) g_X12_224 (K_102 h0) rfl d_X12_mayBe_8 ?_
    refine r_icmp_ge (f := (oP Sh D)) (pc := 11) 54 d_X12_mayBe_11 (by decide) (fun c1 => ?_) (fun c1 => ?_)
    · refine r_iload_n (pc := 54) 3 d_X12_mayBe_54 rfl rfl ?_
      exact r_iret (pc := 55) rfl d_X12_mayBe_55
    · refine r_iload_n (pc := 14) 3 d_X12_mayBe_14 rfl rfl ?_
      refine r_aload_n (pc := 15) 0 d_X12_mayBe_15 rfl rfl ?_
      refine r_getR (pc := 16) g_X12_26 (K_102 h0) rfl (R_102_19 h0) d_X12_mayBe_16 ?_
      refine r_iload (pc := 19) 4 d_X12_mayBe_19 rfl ?_
      refine r_ck (f := (oP Sh D)) rfl (fun hc2 => ?_)
      refine q_iald (pc := 21) (j := v4.toNatClampNeg) (K_105 h0) hc2 rfl d_X12_mayBe_21 ?_
      refine r_iload_n (pc := 22) 2 d_X12_mayBe_22 rfl rfl ?_
      refine r_ixor (pc := 23) d_X12_mayBe_23 ?_
      refine r_iload_n (pc := 24) 1 d_X12_mayBe_24 rfl rfl ?_
      refine r_iconst (pc := 25) (-1 : Int32) d_X12_mayBe_25 rfl ?_
      refine r_ixor (pc := 26) d_X12_mayBe_26 ?_
      refine r_iand (pc := 27) d_X12_mayBe_27 ?_
      refine q_cP (f := (oP Sh D)) (av := [.int (((gI D 105 v4.toNatClampNeg) ^^^ v2) &&& (v1 ^^^ (-1 : Int32)))]) (st := [.int v3]) (z_runS ck_X12_ones rfl ml_X12_293 cs_X12_ones rfl (Nat.le_of_ble_eq_true rfl) d_X12_mayBe_28) (s_X12_ones hst h0 (by omega)) kp_P (fun x3 _ => ?_)
      refine r_aload_n (pc := 31) 0 d_X12_mayBe_31 rfl rfl ?_
      refine q_gI (pc := 32) g_X12_230 (K_102 h0) rfl d_X12_mayBe_32 ?_
      refine r_icmp_gt (f := (oP Sh D)) (pc := 35) 45 d_X12_mayBe_35 (by decide) (fun c4 => ?_) (fun c4 => ?_)
      · refine r_iconst (pc := 45) (0 : Int32) d_X12_mayBe_45 rfl ?_
        refine r_ior (pc := 46) d_X12_mayBe_46 ?_
        refine r_leti (f := (oP Sh D)) (fun x5 => ?_)
        refine r_istore_n (pc := 47) (ls' := [(3, .int x5), (0, .ref 102), (1, .int v1), (2, .int v2), (4, .int v4)]) d_X12_mayBe_47 rfl (Nat.le_of_ble_eq_true rfl) rfl ?_
        refine r_iinc (pc := 48) ((v4 + (1 : Int32))) 4 (ls' := [(4, .int (v4 + (1 : Int32))), (3, .int x5), (0, .ref 102), (1, .int v1), (2, .int v2)]) d_X12_mayBe_48 rfl rfl (Nat.le_of_ble_eq_true rfl) rfl ?_
        refine r_goto (pc := 51) 5 d_X12_mayBe_51 (by decide) ?_
        refine r_pick [2, 3, 4, 1, 0] (ls' := [(0, .ref 102), (1, .int v1), (2, .int v2), (3, .int x5), (4, .int (v4 + (1 : Int32)))]) rfl ?_
        exact hk5 x5 (v4 + (1 : Int32)) 
      · refine r_iconst (pc := 38) (1 : Int32) d_X12_mayBe_38 rfl ?_
        refine r_iload (pc := 39) 4 d_X12_mayBe_39 rfl ?_
        refine r_ishl (pc := 41) d_X12_mayBe_41 ?_
        refine r_goto (pc := 42) 46 d_X12_mayBe_42 (by decide) ?_
        refine r_ior (pc := 46) d_X12_mayBe_46 ?_
        refine r_leti (f := (oP Sh D)) (fun x6 => ?_)
        refine r_istore_n (pc := 47) (ls' := [(3, .int x6), (0, .ref 102), (1, .int v1), (2, .int v2), (4, .int v4)]) d_X12_mayBe_47 rfl (Nat.le_of_ble_eq_true rfl) rfl ?_
        refine r_iinc (pc := 48) ((v4 + (1 : Int32))) 4 (ls' := [(4, .int (v4 + (1 : Int32))), (3, .int x6), (0, .ref 102), (1, .int v1), (2, .int v2)]) d_X12_mayBe_48 rfl rfl (Nat.le_of_ble_eq_true rfl) rfl ?_
        refine r_goto (pc := 51) 5 d_X12_mayBe_51 (by decide) ?_
        refine r_pick [2, 3, 4, 1, 0] (ls' := [(0, .ref 102), (1, .int v1), (2, .int v2), (3, .int x6), (4, .int (v4 + (1 : Int32)))]) rfl ?_
        exact hk5 x6 (v4 + (1 : Int32)) 
theorem s_X12_mayBe {X : zX} {Sh : zSh} {d : Nat} (hst : (zl X).stackTraces = false) (h0 : zSh0 Sh) (hd : 2 ≤ d) {v1 : Int32} {v2 : Int32} {D : zD} : Sd X m_X12_mayBe d [.ref 102, .int v1, .int v2] (Sh, D) ((oP Sh D) (fn_X12_mayBe v1 v2 D)) := by
  obtain ⟨d, rfl⟩ : ∃ e, d = e + 1 := ⟨d - 1, by omega⟩
  replace hd : 1 ≤ d := by omega
  refine z_body ck_X12_mayBe rfl (Nat.le_of_ble_eq_true rfl) rfl hst ?_
  rw [fn_X12_mayBe]
  show Rn X m_X12_mayBe (d + 1) 0 [(0, .ref 102), (1, .int v1), (2, .int v2)] [] (Sh, D) _
  refine r_iconst (pc := 0) (0 : Int32) d_X12_mayBe_0 rfl ?_
  refine r_istore_n (pc := 1) (ls' := [(3, .int (0 : Int32)), (0, .ref 102), (1, .int v1), (2, .int v2)]) d_X12_mayBe_1 rfl (Nat.le_of_ble_eq_true rfl) rfl ?_
  refine r_iconst (pc := 2) (0 : Int32) d_X12_mayBe_2 rfl ?_
  refine r_istore (pc := 3) (ls' := [(4, .int (0 : Int32)), (3, .int (0 : Int32)), (0, .ref 102), (1, .int v1), (2, .int v2)]) d_X12_mayBe_3 (Nat.le_of_ble_eq_true rfl) rfl ?_
  refine r_pick [2, 3, 4, 1, 0] (ls' := [(0, .ref 102), (1, .int v1), (2, .int v2), (3, .int (0 : Int32)), (4, .int (0 : Int32))]) rfl ?_
  exact s_X12_mayBe_5 hst h0 hd D zFU  (0 : Int32) (0 : Int32)
/-! CoveredSignsModel.isPaint -/
theorem d_X12_isPaint_0 : decode (yB m_X12_isPaint) 0 = .ok (.iload_n 1, 1) := by decide +kernel
theorem d_X12_isPaint_1 : decode (yB m_X12_isPaint) 1 = .ok (.iconst 0, 1) := by decide +kernel
theorem d_X12_isPaint_2 : decode (yB m_X12_isPaint) 2 = .ok (.aload_n 0, 1) := by decide +kernel
theorem d_X12_isPaint_3 : decode (yB m_X12_isPaint) 3 = .ok (.invokevirtual 269, 3) := by decide +kernel
theorem d_X12_isPaint_6 : decode (yB m_X12_isPaint) 6 = .ok (.invokestatic 147, 3) := by decide +kernel
theorem d_X12_isPaint_9 : decode (yB m_X12_isPaint) 9 = .ok (.ireturn, 1) := by decide +kernel
def fn_X12_isPaint (v1 : Int32) (D : zD) : Option Int32 := (fn_X12_allCells D).bind fun x1 => (fn_X12_in v1 (0 : Int32) x1).bind fun x2 => zcb x2 <| (some x2)
theorem s_X12_isPaint {X : zX} {Sh : zSh} {d : Nat} (hst : (zl X).stackTraces = false) (h0 : zSh0 Sh) (hd : 3 ≤ d) {v1 : Int32} {D : zD} : Sd X m_X12_isPaint d [.ref 102, .int v1] (Sh, D) ((oP Sh D) (fn_X12_isPaint v1 D)) := by
  obtain ⟨d, rfl⟩ : ∃ e, d = e + 1 := ⟨d - 1, by omega⟩
  replace hd : 2 ≤ d := by omega
  refine z_body ck_X12_isPaint rfl (Nat.le_of_ble_eq_true rfl) rfl hst ?_
  rw [fn_X12_isPaint]
  show Rn X m_X12_isPaint (d + 1) 0 [(0, .ref 102), (1, .int v1)] [] (Sh, D) _
  refine r_iload_n (pc := 0) 1 d_X12_isPaint_0 rfl rfl ?_
  refine r_iconst (pc := 1) (0 : Int32) d_X12_isPaint_1 rfl ?_
  refine r_aload_n (pc := 2) 0 d_X12_isPaint_2 rfl rfl ?_
  refine q_cP (f := (oP Sh D)) (av := [.ref 102]) (st := [.int (0 : Int32), .int v1]) (z_runV ck_X12_allCells rfl ml_X12_269 ci_X12_allCells cv_X12_allCells (K_102 h0) (ci := 12) rfl rfl (Nat.le_of_ble_eq_true rfl) d_X12_isPaint_3) (s_X12_allCells hst h0 (by omega)) kp_P (fun x1 _ => ?_)
  refine q_cP (f := (oP Sh D)) (av := [.int v1, .int (0 : Int32), .int x1]) (st := []) (z_runS ck_X12_in rfl ml_X12_147 cs_X12_in rfl (Nat.le_of_ble_eq_true rfl) d_X12_isPaint_6) (s_X12_in hst h0 (by omega)) kp_P (fun x2 _ => ?_)
  refine r_cb (f := (oP Sh D)) rfl (fun hb3 => ?_)
  exact r_zret (pc := 9) rfl hb3 d_X12_isPaint_9
/-! CoveredSignsModel.may -/
theorem d_X12_may_0 : decode (yB m_X12_may) 0 = .ok (.aload_n 0, 1) := by decide +kernel
theorem d_X12_may_1 : decode (yB m_X12_may) 1 = .ok (.iconst 0, 1) := by decide +kernel
theorem d_X12_may_2 : decode (yB m_X12_may) 2 = .ok (.putfield 113, 3) := by decide +kernel
theorem d_X12_may_5 : decode (yB m_X12_may) 5 = .ok (.aload_n 0, 1) := by decide +kernel
theorem d_X12_may_6 : decode (yB m_X12_may) 6 = .ok (.aload_n 0, 1) := by decide +kernel
theorem d_X12_may_7 : decode (yB m_X12_may) 7 = .ok (.iload_n 1, 1) := by decide +kernel
theorem d_X12_may_8 : decode (yB m_X12_may) 8 = .ok (.invokevirtual 299, 3) := by decide +kernel
theorem d_X12_may_11 : decode (yB m_X12_may) 11 = .ok (.ifCond .ne 7, 3) := by decide +kernel
theorem d_X12_may_14 : decode (yB m_X12_may) 14 = .ok (.iconst 1, 1) := by decide +kernel
theorem d_X12_may_15 : decode (yB m_X12_may) 15 = .ok (.goto 4, 3) := by decide +kernel
theorem d_X12_may_18 : decode (yB m_X12_may) 18 = .ok (.iconst 0, 1) := by decide +kernel
theorem d_X12_may_19 : decode (yB m_X12_may) 19 = .ok (.iconst 1, 1) := by decide +kernel
theorem d_X12_may_20 : decode (yB m_X12_may) 20 = .ok (.invokevirtual 214, 3) := by decide +kernel
theorem d_X12_may_23 : decode (yB m_X12_may) 23 = .ok (.ifCond .ne 24, 3) := by decide +kernel
theorem d_X12_may_26 : decode (yB m_X12_may) 26 = .ok (.aload_n 0, 1) := by decide +kernel
theorem d_X12_may_27 : decode (yB m_X12_may) 27 = .ok (.aload_n 0, 1) := by decide +kernel
theorem d_X12_may_28 : decode (yB m_X12_may) 28 = .ok (.iload_n 2, 1) := by decide +kernel
theorem d_X12_may_29 : decode (yB m_X12_may) 29 = .ok (.invokevirtual 320, 3) := by decide +kernel
theorem d_X12_may_32 : decode (yB m_X12_may) 32 = .ok (.ifCond .ne 7, 3) := by decide +kernel
theorem d_X12_may_35 : decode (yB m_X12_may) 35 = .ok (.iconst 1, 1) := by decide +kernel
theorem d_X12_may_36 : decode (yB m_X12_may) 36 = .ok (.goto 4, 3) := by decide +kernel
theorem d_X12_may_39 : decode (yB m_X12_may) 39 = .ok (.iconst 0, 1) := by decide +kernel
theorem d_X12_may_40 : decode (yB m_X12_may) 40 = .ok (.iconst 2, 1) := by decide +kernel
theorem d_X12_may_41 : decode (yB m_X12_may) 41 = .ok (.invokevirtual 214, 3) := by decide +kernel
theorem d_X12_may_44 : decode (yB m_X12_may) 44 = .ok (.ifCond .eq 5, 3) := by decide +kernel
theorem d_X12_may_47 : decode (yB m_X12_may) 47 = .ok (.iconst 0, 1) := by decide +kernel
theorem d_X12_may_48 : decode (yB m_X12_may) 48 = .ok (.ireturn, 1) := by decide +kernel
theorem d_X12_may_49 : decode (yB m_X12_may) 49 = .ok (.aload_n 0, 1) := by decide +kernel
theorem d_X12_may_50 : decode (yB m_X12_may) 50 = .ok (.aload_n 0, 1) := by decide +kernel
theorem d_X12_may_51 : decode (yB m_X12_may) 51 = .ok (.getfield 52, 3) := by decide +kernel
theorem d_X12_may_54 : decode (yB m_X12_may) 54 = .ok (.iload_n 1, 1) := by decide +kernel
theorem d_X12_may_55 : decode (yB m_X12_may) 55 = .ok (.iaload, 1) := by decide +kernel
theorem d_X12_may_56 : decode (yB m_X12_may) 56 = .ok (.iload_n 2, 1) := by decide +kernel
theorem d_X12_may_57 : decode (yB m_X12_may) 57 = .ok (.invokevirtual 323, 3) := by decide +kernel
theorem d_X12_may_60 : decode (yB m_X12_may) 60 = .ok (.ireturn, 1) := by decide +kernel
def fn_X12_may_40 (v1 : Int32) (v2 : Int32) (w1 : Int32) (D : zD) : Option (Int32 × zD) := (fn_X12_bad w1 (2 : Int32) D).bind fun q8 => (if q8.1 = 0 then (zck v1 500 <| (fn_X12_mayBe (gI q8.2 128 v1.toNatClampNeg) v2 q8.2).bind fun x11 => (some (x11, q8.2))) else ((some ((0 : Int32), q8.2))))
def fn_X12_may_19 (v1 : Int32) (v2 : Int32) (w1 : Int32) (D : zD) : Option (Int32 × zD) := (fn_X12_bad w1 (1 : Int32) D).bind fun q4 => (if q4.1 = 0 then ((fn_X12_isPaint v2 q4.2).bind fun x6 => (if x6 = 0 then ((fn_X12_may_40 v1 v2 (1 : Int32) q4.2)) else ((fn_X12_may_40 v1 v2 (0 : Int32) q4.2)))) else ((some ((0 : Int32), q4.2))))
def fn_X12_may (v1 : Int32) (v2 : Int32) (D : zD) : Option (Int32 × zD) := zlet (sI D 102 0 (0 : Int32)) fun D1 => (fn_X12_isCover v1 D1).bind fun x2 => (if x2 = 0 then ((fn_X12_may_19 v1 v2 (1 : Int32) D1)) else ((fn_X12_may_19 v1 v2 (0 : Int32) D1)))
theorem s_X12_may_40 {X : zX} {Sh : zSh} {d : Nat} (hst : (zl X).stackTraces = false) (h0 : zSh0 Sh) (hd : 3 ≤ d) {v1 : Int32} {v2 : Int32} (w1 : Int32) (D : zD)  : Rn X m_X12_may (d + 1) 40 [(0, .ref 102), (1, .int v1), (2, .int v2)] [.int w1, .ref 102] (Sh, D) ((oI Sh) (fn_X12_may_40 v1 v2 w1 D)) := by
  rw [fn_X12_may_40]
  refine r_iconst (pc := 40) (2 : Int32) d_X12_may_40 rfl ?_
  refine q_cI (f := (oI Sh)) (av := [.ref 102, .int w1, .int (2 : Int32)]) (st := []) (z_runV ck_X12_bad rfl ml_X12_214 ci_X12_bad cv_X12_bad (K_102 h0) (ci := 12) rfl rfl (Nat.le_of_ble_eq_true rfl) d_X12_may_41) (s_X12_bad hst h0 (by omega)) kp_I (fun q8 _ => ?_)
  refine r_if_eq (f := (oI Sh)) (pc := 44) 49 d_X12_may_44 (by decide) (fun c9 => ?_) (fun c9 => ?_)
  · refine r_aload_n (pc := 49) 0 d_X12_may_49 rfl rfl ?_
    refine r_aload_n (pc := 50) 0 d_X12_may_50 rfl rfl ?_
    refine r_getR (pc := 51) g_X12_52 (K_102 h0) rfl (R_102_28 h0) d_X12_may_51 ?_
    refine r_iload_n (pc := 54) 1 d_X12_may_54 rfl rfl ?_
    refine r_ck (f := (oI Sh)) rfl (fun hc10 => ?_)
    refine q_iald (pc := 55) (j := v1.toNatClampNeg) (K_128 h0) hc10 rfl d_X12_may_55 ?_
    refine r_iload_n (pc := 56) 2 d_X12_may_56 rfl rfl ?_
    refine q_cP (f := (oI Sh)) (av := [.ref 102, .int (gI q8.2 128 v1.toNatClampNeg), .int v2]) (st := []) (z_runV ck_X12_mayBe rfl ml_X12_323 ci_X12_mayBe cv_X12_mayBe (K_102 h0) (ci := 12) rfl rfl (Nat.le_of_ble_eq_true rfl) d_X12_may_57) (s_X12_mayBe hst h0 (by omega)) kp_I (fun x11 _ => ?_)
    exact r_iret (pc := 60) rfl d_X12_may_60
  · refine r_iconst (pc := 47) (0 : Int32) d_X12_may_47 rfl ?_
    exact r_iret (pc := 48) rfl d_X12_may_48
theorem s_X12_may_19 {X : zX} {Sh : zSh} {d : Nat} (hst : (zl X).stackTraces = false) (h0 : zSh0 Sh) (hd : 3 ≤ d) {v1 : Int32} {v2 : Int32} (w1 : Int32) (D : zD)  : Rn X m_X12_may (d + 1) 19 [(0, .ref 102), (1, .int v1), (2, .int v2)] [.int w1, .ref 102] (Sh, D) ((oI Sh) (fn_X12_may_19 v1 v2 w1 D)) := by
  rw [fn_X12_may_19]
  refine r_iconst (pc := 19) (1 : Int32) d_X12_may_19 rfl ?_
  refine q_cI (f := (oI Sh)) (av := [.ref 102, .int w1, .int (1 : Int32)]) (st := []) (z_runV ck_X12_bad rfl ml_X12_214 ci_X12_bad cv_X12_bad (K_102 h0) (ci := 12) rfl rfl (Nat.le_of_ble_eq_true rfl) d_X12_may_20) (s_X12_bad hst h0 (by omega)) kp_I (fun q4 _ => ?_)
  refine r_if_ne (f := (oI Sh)) (pc := 23) 47 d_X12_may_23 (by decide) (fun c5 => ?_) (fun c5 => ?_)
  · refine r_iconst (pc := 47) (0 : Int32) d_X12_may_47 rfl ?_
    exact r_iret (pc := 48) rfl d_X12_may_48
  · refine r_aload_n (pc := 26) 0 d_X12_may_26 rfl rfl ?_
    refine r_aload_n (pc := 27) 0 d_X12_may_27 rfl rfl ?_
    refine r_iload_n (pc := 28) 2 d_X12_may_28 rfl rfl ?_
    refine q_cP (f := (oI Sh)) (av := [.ref 102, .int v2]) (st := [.ref 102]) (z_runV ck_X12_isPaint rfl ml_X12_320 ci_X12_isPaint cv_X12_isPaint (K_102 h0) (ci := 12) rfl rfl (Nat.le_of_ble_eq_true rfl) d_X12_may_29) (s_X12_isPaint hst h0 (by omega)) kp_I (fun x6 _ => ?_)
    refine r_if_ne (f := (oI Sh)) (pc := 32) 39 d_X12_may_32 (by decide) (fun c7 => ?_) (fun c7 => ?_)
    · refine r_iconst (pc := 39) (0 : Int32) d_X12_may_39 rfl ?_
      refine r_pick [0, 1, 2] (ls' := [(0, .ref 102), (1, .int v1), (2, .int v2)]) rfl ?_
      exact s_X12_may_40 hst h0 hd (0 : Int32) q4.2
    · refine r_iconst (pc := 35) (1 : Int32) d_X12_may_35 rfl ?_
      refine r_goto (pc := 36) 40 d_X12_may_36 (by decide) ?_
      refine r_pick [0, 1, 2] (ls' := [(0, .ref 102), (1, .int v1), (2, .int v2)]) rfl ?_
      exact s_X12_may_40 hst h0 hd (1 : Int32) q4.2
theorem s_X12_may {X : zX} {Sh : zSh} {d : Nat} (hst : (zl X).stackTraces = false) (h0 : zSh0 Sh) (hd : 4 ≤ d) {v1 : Int32} {v2 : Int32} {D : zD} : Sd X m_X12_may d [.ref 102, .int v1, .int v2] (Sh, D) ((oI Sh) (fn_X12_may v1 v2 D)) := by
  obtain ⟨d, rfl⟩ : ∃ e, d = e + 1 := ⟨d - 1, by omega⟩
  replace hd : 3 ≤ d := by omega
  refine z_body ck_X12_may rfl (Nat.le_of_ble_eq_true rfl) rfl hst ?_
  rw [fn_X12_may]
  show Rn X m_X12_may (d + 1) 0 [(0, .ref 102), (1, .int v1), (2, .int v2)] [] (Sh, D) _
  refine r_aload_n (pc := 0) 0 d_X12_may_0 rfl rfl ?_
  refine r_iconst (pc := 1) (0 : Int32) d_X12_may_1 rfl ?_
  refine r_putI (pc := 2) p_X12_113 (K_102 h0) rfl (Or.inl rfl) d_X12_may_2 ?_
  refine r_letD (f := (oI Sh)) (fun D1 => ?_)
  refine r_aload_n (pc := 5) 0 d_X12_may_5 rfl rfl ?_
  refine r_aload_n (pc := 6) 0 d_X12_may_6 rfl rfl ?_
  refine r_iload_n (pc := 7) 1 d_X12_may_7 rfl rfl ?_
  refine q_cP (f := (oI Sh)) (av := [.ref 102, .int v1]) (st := [.ref 102]) (z_runV ck_X12_isCover rfl ml_X12_299 ci_X12_isCover cv_X12_isCover (K_102 h0) (ci := 12) rfl rfl (Nat.le_of_ble_eq_true rfl) d_X12_may_8) (s_X12_isCover hst h0 (by omega)) kp_I (fun x2 _ => ?_)
  refine r_if_ne (f := (oI Sh)) (pc := 11) 18 d_X12_may_11 (by decide) (fun c3 => ?_) (fun c3 => ?_)
  · refine r_iconst (pc := 18) (0 : Int32) d_X12_may_18 rfl ?_
    refine r_pick [0, 1, 2] (ls' := [(0, .ref 102), (1, .int v1), (2, .int v2)]) rfl ?_
    exact s_X12_may_19 hst h0 hd (0 : Int32) D1
  · refine r_iconst (pc := 14) (1 : Int32) d_X12_may_14 rfl ?_
    refine r_goto (pc := 15) 19 d_X12_may_15 (by decide) ?_
    refine r_pick [0, 1, 2] (ls' := [(0, .ref 102), (1, .int v1), (2, .int v2)]) rfl ?_
    exact s_X12_may_19 hst h0 hd (1 : Int32) D1
/-! CoveredSignsModel.only -/
theorem d_X12_only_0 : decode (yB m_X12_only) 0 = .ok (.iload_n 1, 1) := by decide +kernel
theorem d_X12_only_1 : decode (yB m_X12_only) 1 = .ok (.invokestatic 293, 3) := by decide +kernel
theorem d_X12_only_4 : decode (yB m_X12_only) 4 = .ok (.iconst 1, 1) := by decide +kernel
theorem d_X12_only_5 : decode (yB m_X12_only) 5 = .ok (.if_icmp .eq 5, 3) := by decide +kernel
theorem d_X12_only_8 : decode (yB m_X12_only) 8 = .ok (.iconst (-1), 1) := by decide +kernel
theorem d_X12_only_9 : decode (yB m_X12_only) 9 = .ok (.ireturn, 1) := by decide +kernel
theorem d_X12_only_10 : decode (yB m_X12_only) 10 = .ok (.iconst 0, 1) := by decide +kernel
theorem d_X12_only_11 : decode (yB m_X12_only) 11 = .ok (.istore_n 2, 1) := by decide +kernel
theorem d_X12_only_12 : decode (yB m_X12_only) 12 = .ok (.iload_n 1, 1) := by decide +kernel
theorem d_X12_only_13 : decode (yB m_X12_only) 13 = .ok (.iload_n 2, 1) := by decide +kernel
theorem d_X12_only_14 : decode (yB m_X12_only) 14 = .ok (.ishr, 1) := by decide +kernel
theorem d_X12_only_15 : decode (yB m_X12_only) 15 = .ok (.iconst 1, 1) := by decide +kernel
theorem d_X12_only_16 : decode (yB m_X12_only) 16 = .ok (.iand, 1) := by decide +kernel
theorem d_X12_only_17 : decode (yB m_X12_only) 17 = .ok (.ifCond .ne 9, 3) := by decide +kernel
theorem d_X12_only_20 : decode (yB m_X12_only) 20 = .ok (.iinc 2 1, 3) := by decide +kernel
theorem d_X12_only_23 : decode (yB m_X12_only) 23 = .ok (.goto (-11), 3) := by decide +kernel
theorem d_X12_only_26 : decode (yB m_X12_only) 26 = .ok (.iload_n 2, 1) := by decide +kernel
theorem d_X12_only_27 : decode (yB m_X12_only) 27 = .ok (.ireturn, 1) := by decide +kernel
def fn_X12_only_12 (v1 : Int32) : Nat → Int32 → Option Int32
  | 0, _ => none
  | n + 1, v2 => (if ((v1 >>> (v2 &&& 31)) &&& (1 : Int32)) = 0 then (((fn_X12_only_12 v1 n) (v2 + (1 : Int32)))) else ((some v2)))
def fn_X12_only (v1 : Int32) : Option Int32 := (fn_X12_ones v1).bind fun x1 => (if x1 = (1 : Int32) then ((fn_X12_only_12 v1 zFU (0 : Int32))) else ((some (-1 : Int32))))
theorem s_X12_only_12 {X : zX} {Sh : zSh} {d : Nat} (hst : (zl X).stackTraces = false) (h0 : zSh0 Sh) (hd : 1 ≤ d) {v1 : Int32} (D : zD) : ∀ (n : Nat) (v2 : Int32) , Rn X m_X12_only (d + 1) 12 [(1, .int v1), (2, .int v2)] [] (Sh, D) ((oP Sh D) (fn_X12_only_12 v1 n v2)) := by
  intro n
  induction n with
  | zero => intro v2; exact Rn_none rfl
  | succ n hk12 =>
    intro v2
    rw [fn_X12_only_12]
    refine r_iload_n (pc := 12) 0 d_X12_only_12 rfl rfl ?_
    refine r_iload_n (pc := 13) 1 d_X12_only_13 rfl rfl ?_
    refine r_ishr (pc := 14) d_X12_only_14 ?_
    refine r_iconst (pc := 15) (1 : Int32) d_X12_only_15 rfl ?_
    refine r_iand (pc := 16) d_X12_only_16 ?_
    refine r_if_ne (f := (oP Sh D)) (pc := 17) 26 d_X12_only_17 (by decide) (fun c3 => ?_) (fun c3 => ?_)
    · refine r_iload_n (pc := 26) 1 d_X12_only_26 rfl rfl ?_
      exact r_iret (pc := 27) rfl d_X12_only_27
    · refine r_iinc (pc := 20) ((v2 + (1 : Int32))) 1 (ls' := [(2, .int (v2 + (1 : Int32))), (1, .int v1)]) d_X12_only_20 rfl rfl (Nat.le_of_ble_eq_true rfl) rfl ?_
      refine r_goto (pc := 23) 12 d_X12_only_23 (by decide) ?_
      refine r_pick [1, 0] (ls' := [(1, .int v1), (2, .int (v2 + (1 : Int32)))]) rfl ?_
      exact hk12 (v2 + (1 : Int32)) 
theorem s_X12_only {X : zX} {Sh : zSh} {d : Nat} (hst : (zl X).stackTraces = false) (h0 : zSh0 Sh) (hd : 2 ≤ d) {v1 : Int32} {D : zD} : Sd X m_X12_only d [.ref 102, .int v1] (Sh, D) ((oP Sh D) (fn_X12_only v1)) := by
  obtain ⟨d, rfl⟩ : ∃ e, d = e + 1 := ⟨d - 1, by omega⟩
  replace hd : 1 ≤ d := by omega
  refine z_body ck_X12_only rfl (Nat.le_of_ble_eq_true rfl) rfl hst ?_
  rw [fn_X12_only]
  show Rn X m_X12_only (d + 1) 0 [(0, .ref 102), (1, .int v1)] [] (Sh, D) _
  refine r_iload_n (pc := 0) 1 d_X12_only_0 rfl rfl ?_
  refine q_cP (f := (oP Sh D)) (av := [.int v1]) (st := []) (z_runS ck_X12_ones rfl ml_X12_293 cs_X12_ones rfl (Nat.le_of_ble_eq_true rfl) d_X12_only_1) (s_X12_ones hst h0 (by omega)) kp_P (fun x1 _ => ?_)
  refine r_iconst (pc := 4) (1 : Int32) d_X12_only_4 rfl ?_
  refine r_icmp_eq (f := (oP Sh D)) (pc := 5) 10 d_X12_only_5 (by decide) (fun c2 => ?_) (fun c2 => ?_)
  · refine r_iconst (pc := 10) (0 : Int32) d_X12_only_10 rfl ?_
    refine r_istore_n (pc := 11) (ls' := [(2, .int (0 : Int32)), (0, .ref 102), (1, .int v1)]) d_X12_only_11 rfl (Nat.le_of_ble_eq_true rfl) rfl ?_
    refine r_pick [2, 0] (ls' := [(1, .int v1), (2, .int (0 : Int32))]) rfl ?_
    exact s_X12_only_12 hst h0 hd D zFU  (0 : Int32)
  · refine r_iconst (pc := 8) (-1 : Int32) d_X12_only_8 rfl ?_
    exact r_iret (pc := 9) rfl d_X12_only_9
