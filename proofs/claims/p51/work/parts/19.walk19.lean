/-! printed by wip/p51/emit.py out of the claim's own listing -/
theorem dL_law_0 : ml_d cL_law 0 (.new 9) 3 3 := ⟨by decide +kernel, rfl⟩
theorem dL_law_3 : ml_d cL_law 3 (.dup) 1 4 := ⟨by decide +kernel, rfl⟩
theorem dL_law_4 : ml_d cL_law 4 (.invokespecial 49) 3 7 := ⟨by decide +kernel, rfl⟩
theorem dL_law_7 : ml_d cL_law 7 (.astore_n 1) 1 8 := ⟨by decide +kernel, rfl⟩
theorem dL_law_8 : ml_d cL_law 8 (.new 9) 3 11 := ⟨by decide +kernel, rfl⟩
theorem dL_law_11 : ml_d cL_law 11 (.dup) 1 12 := ⟨by decide +kernel, rfl⟩
theorem dL_law_12 : ml_d cL_law 12 (.invokespecial 49) 3 15 := ⟨by decide +kernel, rfl⟩
theorem dL_law_15 : ml_d cL_law 15 (.astore_n 2) 1 16 := ⟨by decide +kernel, rfl⟩
theorem dL_law_16 : ml_d cL_law 16 (.bipush 64) 2 18 := ⟨by decide +kernel, rfl⟩
theorem dL_law_18 : ml_d cL_law 18 (.newarray .int) 2 20 := ⟨by decide +kernel, rfl⟩
theorem dL_law_20 : ml_d cL_law 20 (.astore_n 3) 1 21 := ⟨by decide +kernel, rfl⟩
theorem dL_law_21 : ml_d cL_law 21 (.bipush 64) 2 23 := ⟨by decide +kernel, rfl⟩
theorem dL_law_23 : ml_d cL_law 23 (.newarray .int) 2 25 := ⟨by decide +kernel, rfl⟩
theorem dL_law_25 : ml_d cL_law 25 (.astore 4) 2 27 := ⟨by decide +kernel, rfl⟩
theorem dL_law_27 : ml_d cL_law 27 (.bipush 16) 2 29 := ⟨by decide +kernel, rfl⟩
theorem dL_law_29 : ml_d cL_law 29 (.newarray .int) 2 31 := ⟨by decide +kernel, rfl⟩
theorem dL_law_31 : ml_d cL_law 31 (.astore 5) 2 33 := ⟨by decide +kernel, rfl⟩
theorem dL_law_33 : ml_d cL_law 33 (.bipush 32) 2 35 := ⟨by decide +kernel, rfl⟩
theorem dL_law_35 : ml_d cL_law 35 (.newarray .int) 2 37 := ⟨by decide +kernel, rfl⟩
theorem dL_law_37 : ml_d cL_law 37 (.astore 6) 2 39 := ⟨by decide +kernel, rfl⟩
theorem dL_law_39 : ml_d cL_law 39 (.bipush 64) 2 41 := ⟨by decide +kernel, rfl⟩
theorem dL_law_41 : ml_d cL_law 41 (.newarray .int) 2 43 := ⟨by decide +kernel, rfl⟩
theorem dL_law_43 : ml_d cL_law 43 (.astore 7) 2 45 := ⟨by decide +kernel, rfl⟩
theorem dL_law_45 : ml_d cL_law 45 (.iconst 2) 1 46 := ⟨by decide +kernel, rfl⟩
theorem dL_law_46 : ml_d cL_law 46 (.aload_n 0) 1 47 := ⟨by decide +kernel, rfl⟩
theorem dL_law_47 : ml_d cL_law 47 (.iconst 0) 1 48 := ⟨by decide +kernel, rfl⟩
theorem dL_law_48 : ml_d cL_law 48 (.invokestatic 19) 3 51 := ⟨by decide +kernel, rfl⟩
theorem dL_law_51 : ml_d cL_law 51 (.iconst 4) 1 52 := ⟨by decide +kernel, rfl⟩
theorem dL_law_52 : ml_d cL_law 52 (.irem) 1 53 := ⟨by decide +kernel, rfl⟩
theorem dL_law_53 : ml_d cL_law 53 (.iadd) 1 54 := ⟨by decide +kernel, rfl⟩
theorem dL_law_54 : ml_d cL_law 54 (.istore 8) 2 56 := ⟨by decide +kernel, rfl⟩
theorem dL_law_56 : ml_d cL_law 56 (.iconst 2) 1 57 := ⟨by decide +kernel, rfl⟩
theorem dL_law_57 : ml_d cL_law 57 (.aload_n 0) 1 58 := ⟨by decide +kernel, rfl⟩
theorem dL_law_58 : ml_d cL_law 58 (.iconst 1) 1 59 := ⟨by decide +kernel, rfl⟩
theorem dL_law_59 : ml_d cL_law 59 (.invokestatic 19) 3 62 := ⟨by decide +kernel, rfl⟩
theorem dL_law_62 : ml_d cL_law 62 (.iconst 3) 1 63 := ⟨by decide +kernel, rfl⟩
theorem dL_law_63 : ml_d cL_law 63 (.irem) 1 64 := ⟨by decide +kernel, rfl⟩
theorem dL_law_64 : ml_d cL_law 64 (.iadd) 1 65 := ⟨by decide +kernel, rfl⟩
theorem dL_law_65 : ml_d cL_law 65 (.istore 9) 2 67 := ⟨by decide +kernel, rfl⟩
theorem dL_law_67 : ml_d cL_law 67 (.aload_n 0) 1 68 := ⟨by decide +kernel, rfl⟩
theorem dL_law_68 : ml_d cL_law 68 (.iconst 2) 1 69 := ⟨by decide +kernel, rfl⟩
theorem dL_law_69 : ml_d cL_law 69 (.invokestatic 19) 3 72 := ⟨by decide +kernel, rfl⟩
theorem dL_law_72 : ml_d cL_law 72 (.iconst 3) 1 73 := ⟨by decide +kernel, rfl⟩
theorem dL_law_73 : ml_d cL_law 73 (.irem) 1 74 := ⟨by decide +kernel, rfl⟩
theorem dL_law_74 : ml_d cL_law 74 (.istore 10) 2 76 := ⟨by decide +kernel, rfl⟩
theorem dL_law_76 : ml_d cL_law 76 (.aload_n 0) 1 77 := ⟨by decide +kernel, rfl⟩
theorem dL_law_77 : ml_d cL_law 77 (.iconst 3) 1 78 := ⟨by decide +kernel, rfl⟩
theorem dL_law_78 : ml_d cL_law 78 (.invokestatic 19) 3 81 := ⟨by decide +kernel, rfl⟩
theorem dL_law_81 : ml_d cL_law 81 (.bipush 9) 2 83 := ⟨by decide +kernel, rfl⟩
theorem dL_law_83 : ml_d cL_law 83 (.irem) 1 84 := ⟨by decide +kernel, rfl⟩
theorem dL_law_84 : ml_d cL_law 84 (.istore 11) 2 86 := ⟨by decide +kernel, rfl⟩
theorem dL_law_86 : ml_d cL_law 86 (.iload 11) 2 88 := ⟨by decide +kernel, rfl⟩
theorem dL_law_88 : ml_d cL_law 88 (.bipush 7) 2 90 := ⟨by decide +kernel, rfl⟩
theorem dL_law_90 : ml_j cL_law 90 (.if_icmp .le) 98 93 := ⟨8, by decide +kernel, by decide, rfl⟩
theorem dL_law_93 : ml_d cL_law 93 (.bipush 7) 2 95 := ⟨by decide +kernel, rfl⟩
theorem dL_law_95 : ml_j cL_law 95 .goto 100 98 := ⟨5, by decide +kernel, by decide, rfl⟩
theorem dL_law_98 : ml_d cL_law 98 (.iload 11) 2 100 := ⟨by decide +kernel, rfl⟩
theorem dL_law_100 : ml_d cL_law 100 (.istore 11) 2 102 := ⟨by decide +kernel, rfl⟩
theorem dL_law_102 : ml_d cL_law 102 (.aload_n 0) 1 103 := ⟨by decide +kernel, rfl⟩
theorem dL_law_103 : ml_d cL_law 103 (.bipush 10) 2 105 := ⟨by decide +kernel, rfl⟩
theorem dL_law_105 : ml_d cL_law 105 (.iload 8) 2 107 := ⟨by decide +kernel, rfl⟩
theorem dL_law_107 : ml_d cL_law 107 (.iload 9) 2 109 := ⟨by decide +kernel, rfl⟩
theorem dL_law_109 : ml_d cL_law 109 (.iload 10) 2 111 := ⟨by decide +kernel, rfl⟩
theorem dL_law_111 : ml_d cL_law 111 (.aload_n 3) 1 112 := ⟨by decide +kernel, rfl⟩
theorem dL_law_112 : ml_d cL_law 112 (.aload 5) 2 114 := ⟨by decide +kernel, rfl⟩
theorem dL_law_114 : ml_d cL_law 114 (.aload 6) 2 116 := ⟨by decide +kernel, rfl⟩
theorem dL_law_116 : ml_d cL_law 116 (.invokestatic 50) 3 119 := ⟨by decide +kernel, rfl⟩
theorem dL_law_119 : ml_d cL_law 119 (.iconst 0) 1 120 := ⟨by decide +kernel, rfl⟩
theorem dL_law_120 : ml_d cL_law 120 (.istore 12) 2 122 := ⟨by decide +kernel, rfl⟩
theorem dL_law_122 : ml_d cL_law 122 (.iload 12) 2 124 := ⟨by decide +kernel, rfl⟩
theorem dL_law_124 : ml_d cL_law 124 (.iconst 5) 1 125 := ⟨by decide +kernel, rfl⟩
theorem dL_law_125 : ml_d cL_law 125 (.iload 8) 2 127 := ⟨by decide +kernel, rfl⟩
theorem dL_law_127 : ml_d cL_law 127 (.imul) 1 128 := ⟨by decide +kernel, rfl⟩
theorem dL_law_128 : ml_j cL_law 128 (.if_icmp .ge) 160 131 := ⟨32, by decide +kernel, by decide, rfl⟩
theorem dL_law_131 : ml_d cL_law 131 (.aload 4) 2 133 := ⟨by decide +kernel, rfl⟩
theorem dL_law_133 : ml_d cL_law 133 (.iload 12) 2 135 := ⟨by decide +kernel, rfl⟩
theorem dL_law_135 : ml_d cL_law 135 (.aload_n 3) 1 136 := ⟨by decide +kernel, rfl⟩
theorem dL_law_136 : ml_d cL_law 136 (.iconst 5) 1 137 := ⟨by decide +kernel, rfl⟩
theorem dL_law_137 : ml_d cL_law 137 (.iload 8) 2 139 := ⟨by decide +kernel, rfl⟩
theorem dL_law_139 : ml_d cL_law 139 (.iconst 1) 1 140 := ⟨by decide +kernel, rfl⟩
theorem dL_law_140 : ml_d cL_law 140 (.isub) 1 141 := ⟨by decide +kernel, rfl⟩
theorem dL_law_141 : ml_d cL_law 141 (.iload 12) 2 143 := ⟨by decide +kernel, rfl⟩
theorem dL_law_143 : ml_d cL_law 143 (.iconst 5) 1 144 := ⟨by decide +kernel, rfl⟩
theorem dL_law_144 : ml_d cL_law 144 (.idiv) 1 145 := ⟨by decide +kernel, rfl⟩
theorem dL_law_145 : ml_d cL_law 145 (.isub) 1 146 := ⟨by decide +kernel, rfl⟩
theorem dL_law_146 : ml_d cL_law 146 (.imul) 1 147 := ⟨by decide +kernel, rfl⟩
theorem dL_law_147 : ml_d cL_law 147 (.iload 12) 2 149 := ⟨by decide +kernel, rfl⟩
theorem dL_law_149 : ml_d cL_law 149 (.iconst 5) 1 150 := ⟨by decide +kernel, rfl⟩
theorem dL_law_150 : ml_d cL_law 150 (.irem) 1 151 := ⟨by decide +kernel, rfl⟩
theorem dL_law_151 : ml_d cL_law 151 (.iadd) 1 152 := ⟨by decide +kernel, rfl⟩
theorem dL_law_152 : ml_d cL_law 152 (.iaload) 1 153 := ⟨by decide +kernel, rfl⟩
theorem dL_law_153 : ml_d cL_law 153 (.iastore) 1 154 := ⟨by decide +kernel, rfl⟩
theorem dL_law_154 : ml_d cL_law 154 (.iinc 12 1) 3 157 := ⟨by decide +kernel, rfl⟩
theorem dL_law_157 : ml_j cL_law 157 .goto 122 160 := ⟨(-35), by decide +kernel, by decide, rfl⟩
theorem dL_law_160 : ml_d cL_law 160 (.aload_n 1) 1 161 := ⟨by decide +kernel, rfl⟩
theorem dL_law_161 : ml_d cL_law 161 (.iload 8) 2 163 := ⟨by decide +kernel, rfl⟩
theorem dL_law_163 : ml_d cL_law 163 (.aload_n 3) 1 164 := ⟨by decide +kernel, rfl⟩
theorem dL_law_164 : ml_d cL_law 164 (.iload 9) 2 166 := ⟨by decide +kernel, rfl⟩
theorem dL_law_166 : ml_d cL_law 166 (.aload 5) 2 168 := ⟨by decide +kernel, rfl⟩
theorem dL_law_168 : ml_d cL_law 168 (.iload 10) 2 170 := ⟨by decide +kernel, rfl⟩
theorem dL_law_170 : ml_d cL_law 170 (.aload 6) 2 172 := ⟨by decide +kernel, rfl⟩
theorem dL_law_172 : ml_d cL_law 172 (.invokestatic 54) 3 175 := ⟨by decide +kernel, rfl⟩
theorem dL_law_175 : ml_j cL_law 175 (.ifCond .eq) 197 178 := ⟨22, by decide +kernel, by decide, rfl⟩
theorem dL_law_178 : ml_d cL_law 178 (.aload_n 2) 1 179 := ⟨by decide +kernel, rfl⟩
theorem dL_law_179 : ml_d cL_law 179 (.iload 8) 2 181 := ⟨by decide +kernel, rfl⟩
theorem dL_law_181 : ml_d cL_law 181 (.aload 4) 2 183 := ⟨by decide +kernel, rfl⟩
theorem dL_law_183 : ml_d cL_law 183 (.iload 9) 2 185 := ⟨by decide +kernel, rfl⟩
theorem dL_law_185 : ml_d cL_law 185 (.aload 5) 2 187 := ⟨by decide +kernel, rfl⟩
theorem dL_law_187 : ml_d cL_law 187 (.iload 10) 2 189 := ⟨by decide +kernel, rfl⟩
theorem dL_law_189 : ml_d cL_law 189 (.aload 6) 2 191 := ⟨by decide +kernel, rfl⟩
theorem dL_law_191 : ml_d cL_law 191 (.invokestatic 54) 3 194 := ⟨by decide +kernel, rfl⟩
theorem dL_law_194 : ml_j cL_law 194 (.ifCond .ne) 199 197 := ⟨5, by decide +kernel, by decide, rfl⟩
theorem dL_law_197 : ml_d cL_law 197 (.iconst 0) 1 198 := ⟨by decide +kernel, rfl⟩
theorem dL_law_198 : ml_d cL_law 198 (.ireturn) 1 199 := ⟨by decide +kernel, rfl⟩
theorem dL_law_199 : ml_d cL_law 199 (.iconst 0) 1 200 := ⟨by decide +kernel, rfl⟩
theorem dL_law_200 : ml_d cL_law 200 (.istore 12) 2 202 := ⟨by decide +kernel, rfl⟩
theorem dL_law_202 : ml_d cL_law 202 (.iload 12) 2 204 := ⟨by decide +kernel, rfl⟩
theorem dL_law_204 : ml_d cL_law 204 (.iload 11) 2 206 := ⟨by decide +kernel, rfl⟩
theorem dL_law_206 : ml_j cL_law 206 (.if_icmp .ge) 531 209 := ⟨325, by decide +kernel, by decide, rfl⟩
theorem dL_law_209 : ml_d cL_law 209 (.aload_n 1) 1 210 := ⟨by decide +kernel, rfl⟩
theorem dL_law_210 : ml_d cL_law 210 (.aload_n 0) 1 211 := ⟨by decide +kernel, rfl⟩
theorem dL_law_211 : ml_d cL_law 211 (.bipush 80) 2 213 := ⟨by decide +kernel, rfl⟩
theorem dL_law_213 : ml_d cL_law 213 (.iconst 4) 1 214 := ⟨by decide +kernel, rfl⟩
theorem dL_law_214 : ml_d cL_law 214 (.iload 12) 2 216 := ⟨by decide +kernel, rfl⟩
theorem dL_law_216 : ml_d cL_law 216 (.imul) 1 217 := ⟨by decide +kernel, rfl⟩
theorem dL_law_217 : ml_d cL_law 217 (.iadd) 1 218 := ⟨by decide +kernel, rfl⟩
theorem dL_law_218 : ml_d cL_law 218 (.iload 8) 2 220 := ⟨by decide +kernel, rfl⟩
theorem dL_law_220 : ml_d cL_law 220 (.iload 9) 2 222 := ⟨by decide +kernel, rfl⟩
theorem dL_law_222 : ml_d cL_law 222 (.aload 7) 2 224 := ⟨by decide +kernel, rfl⟩
theorem dL_law_224 : ml_d cL_law 224 (.iload 12) 2 226 := ⟨by decide +kernel, rfl⟩
theorem dL_law_226 : ml_d cL_law 226 (.invokestatic 57) 3 229 := ⟨by decide +kernel, rfl⟩
theorem dL_law_229 : ml_j cL_law 229 (.ifCond .ne) 234 232 := ⟨5, by decide +kernel, by decide, rfl⟩
theorem dL_law_232 : ml_d cL_law 232 (.iconst 0) 1 233 := ⟨by decide +kernel, rfl⟩
theorem dL_law_233 : ml_d cL_law 233 (.ireturn) 1 234 := ⟨by decide +kernel, rfl⟩
theorem dL_law_234 : ml_d cL_law 234 (.aload 7) 2 236 := ⟨by decide +kernel, rfl⟩
theorem dL_law_236 : ml_d cL_law 236 (.bipush 8) 2 238 := ⟨by decide +kernel, rfl⟩
theorem dL_law_238 : ml_d cL_law 238 (.iload 12) 2 240 := ⟨by decide +kernel, rfl⟩
theorem dL_law_240 : ml_d cL_law 240 (.imul) 1 241 := ⟨by decide +kernel, rfl⟩
theorem dL_law_241 : ml_d cL_law 241 (.iaload) 1 242 := ⟨by decide +kernel, rfl⟩
theorem dL_law_242 : ml_d cL_law 242 (.istore 13) 2 244 := ⟨by decide +kernel, rfl⟩
theorem dL_law_244 : ml_d cL_law 244 (.aload 7) 2 246 := ⟨by decide +kernel, rfl⟩
theorem dL_law_246 : ml_d cL_law 246 (.bipush 8) 2 248 := ⟨by decide +kernel, rfl⟩
theorem dL_law_248 : ml_d cL_law 248 (.iload 12) 2 250 := ⟨by decide +kernel, rfl⟩
theorem dL_law_250 : ml_d cL_law 250 (.imul) 1 251 := ⟨by decide +kernel, rfl⟩
theorem dL_law_251 : ml_d cL_law 251 (.iconst 3) 1 252 := ⟨by decide +kernel, rfl⟩
theorem dL_law_252 : ml_d cL_law 252 (.iadd) 1 253 := ⟨by decide +kernel, rfl⟩
theorem dL_law_253 : ml_d cL_law 253 (.iaload) 1 254 := ⟨by decide +kernel, rfl⟩
theorem dL_law_254 : ml_d cL_law 254 (.istore 14) 2 256 := ⟨by decide +kernel, rfl⟩
theorem dL_law_256 : ml_d cL_law 256 (.iload 13) 2 258 := ⟨by decide +kernel, rfl⟩
theorem dL_law_258 : ml_d cL_law 258 (.iconst 2) 1 259 := ⟨by decide +kernel, rfl⟩
theorem dL_law_259 : ml_j cL_law 259 (.if_icmp .eq) 268 262 := ⟨9, by decide +kernel, by decide, rfl⟩
theorem dL_law_262 : ml_d cL_law 262 (.iload 13) 2 264 := ⟨by decide +kernel, rfl⟩
theorem dL_law_264 : ml_d cL_law 264 (.iconst 4) 1 265 := ⟨by decide +kernel, rfl⟩
theorem dL_law_265 : ml_j cL_law 265 (.if_icmp .ne) 272 268 := ⟨7, by decide +kernel, by decide, rfl⟩
theorem dL_law_268 : ml_d cL_law 268 (.iconst 1) 1 269 := ⟨by decide +kernel, rfl⟩
theorem dL_law_269 : ml_j cL_law 269 .goto 273 272 := ⟨4, by decide +kernel, by decide, rfl⟩
theorem dL_law_272 : ml_d cL_law 272 (.iconst 0) 1 273 := ⟨by decide +kernel, rfl⟩
theorem dL_law_273 : ml_d cL_law 273 (.istore 15) 2 275 := ⟨by decide +kernel, rfl⟩
theorem dL_law_275 : ml_d cL_law 275 (.aload_n 2) 1 276 := ⟨by decide +kernel, rfl⟩
theorem dL_law_276 : ml_d cL_law 276 (.iload 13) 2 278 := ⟨by decide +kernel, rfl⟩
theorem dL_law_278 : ml_d cL_law 278 (.aload 7) 2 280 := ⟨by decide +kernel, rfl⟩
theorem dL_law_280 : ml_d cL_law 280 (.bipush 8) 2 282 := ⟨by decide +kernel, rfl⟩
theorem dL_law_282 : ml_d cL_law 282 (.iload 12) 2 284 := ⟨by decide +kernel, rfl⟩
theorem dL_law_284 : ml_d cL_law 284 (.imul) 1 285 := ⟨by decide +kernel, rfl⟩
theorem dL_law_285 : ml_d cL_law 285 (.iconst 1) 1 286 := ⟨by decide +kernel, rfl⟩
theorem dL_law_286 : ml_d cL_law 286 (.iadd) 1 287 := ⟨by decide +kernel, rfl⟩
theorem dL_law_287 : ml_d cL_law 287 (.iaload) 1 288 := ⟨by decide +kernel, rfl⟩
theorem dL_law_288 : ml_d cL_law 288 (.aload 7) 2 290 := ⟨by decide +kernel, rfl⟩
theorem dL_law_290 : ml_d cL_law 290 (.bipush 8) 2 292 := ⟨by decide +kernel, rfl⟩
theorem dL_law_292 : ml_d cL_law 292 (.iload 12) 2 294 := ⟨by decide +kernel, rfl⟩
theorem dL_law_294 : ml_d cL_law 294 (.imul) 1 295 := ⟨by decide +kernel, rfl⟩
theorem dL_law_295 : ml_d cL_law 295 (.iconst 2) 1 296 := ⟨by decide +kernel, rfl⟩
theorem dL_law_296 : ml_d cL_law 296 (.iadd) 1 297 := ⟨by decide +kernel, rfl⟩
theorem dL_law_297 : ml_d cL_law 297 (.iaload) 1 298 := ⟨by decide +kernel, rfl⟩
theorem dL_law_298 : ml_d cL_law 298 (.iload 15) 2 300 := ⟨by decide +kernel, rfl⟩
theorem dL_law_300 : ml_j cL_law 300 (.ifCond .eq) 311 303 := ⟨11, by decide +kernel, by decide, rfl⟩
theorem dL_law_303 : ml_d cL_law 303 (.iload 14) 2 305 := ⟨by decide +kernel, rfl⟩
theorem dL_law_305 : ml_d cL_law 305 (.bipush 10) 2 307 := ⟨by decide +kernel, rfl⟩
theorem dL_law_307 : ml_d cL_law 307 (.idiv) 1 308 := ⟨by decide +kernel, rfl⟩
theorem dL_law_308 : ml_j cL_law 308 .goto 313 311 := ⟨5, by decide +kernel, by decide, rfl⟩
theorem dL_law_311 : ml_d cL_law 311 (.iload 14) 2 313 := ⟨by decide +kernel, rfl⟩
theorem dL_law_313 : ml_d cL_law 313 (.iload 13) 2 315 := ⟨by decide +kernel, rfl⟩
theorem dL_law_315 : ml_d cL_law 315 (.iconst 3) 1 316 := ⟨by decide +kernel, rfl⟩
theorem dL_law_316 : ml_j cL_law 316 (.if_icmp .ne) 337 319 := ⟨21, by decide +kernel, by decide, rfl⟩
theorem dL_law_319 : ml_d cL_law 319 (.iload 8) 2 321 := ⟨by decide +kernel, rfl⟩
theorem dL_law_321 : ml_d cL_law 321 (.iconst 1) 1 322 := ⟨by decide +kernel, rfl⟩
theorem dL_law_322 : ml_d cL_law 322 (.isub) 1 323 := ⟨by decide +kernel, rfl⟩
theorem dL_law_323 : ml_d cL_law 323 (.aload 7) 2 325 := ⟨by decide +kernel, rfl⟩
theorem dL_law_325 : ml_d cL_law 325 (.bipush 8) 2 327 := ⟨by decide +kernel, rfl⟩
theorem dL_law_327 : ml_d cL_law 327 (.iload 12) 2 329 := ⟨by decide +kernel, rfl⟩
theorem dL_law_329 : ml_d cL_law 329 (.imul) 1 330 := ⟨by decide +kernel, rfl⟩
theorem dL_law_330 : ml_d cL_law 330 (.iconst 4) 1 331 := ⟨by decide +kernel, rfl⟩
theorem dL_law_331 : ml_d cL_law 331 (.iadd) 1 332 := ⟨by decide +kernel, rfl⟩
theorem dL_law_332 : ml_d cL_law 332 (.iaload) 1 333 := ⟨by decide +kernel, rfl⟩
theorem dL_law_333 : ml_d cL_law 333 (.isub) 1 334 := ⟨by decide +kernel, rfl⟩
theorem dL_law_334 : ml_j cL_law 334 .goto 351 337 := ⟨17, by decide +kernel, by decide, rfl⟩
theorem dL_law_337 : ml_d cL_law 337 (.iload 15) 2 339 := ⟨by decide +kernel, rfl⟩
theorem dL_law_339 : ml_j cL_law 339 (.ifCond .eq) 350 342 := ⟨11, by decide +kernel, by decide, rfl⟩
theorem dL_law_342 : ml_d cL_law 342 (.iload 14) 2 344 := ⟨by decide +kernel, rfl⟩
theorem dL_law_344 : ml_d cL_law 344 (.bipush 10) 2 346 := ⟨by decide +kernel, rfl⟩
theorem dL_law_346 : ml_d cL_law 346 (.irem) 1 347 := ⟨by decide +kernel, rfl⟩
theorem dL_law_347 : ml_j cL_law 347 .goto 351 350 := ⟨4, by decide +kernel, by decide, rfl⟩
theorem dL_law_350 : ml_d cL_law 350 (.iconst 0) 1 351 := ⟨by decide +kernel, rfl⟩
theorem dL_law_351 : ml_d cL_law 351 (.invokevirtual 37) 3 354 := ⟨by decide +kernel, rfl⟩
theorem dL_law_354 : ml_d cL_law 354 (.iload 12) 2 356 := ⟨by decide +kernel, rfl⟩
theorem dL_law_356 : ml_j cL_law 356 (.if_icmp .ne) 399 359 := ⟨43, by decide +kernel, by decide, rfl⟩
theorem dL_law_359 : ml_d cL_law 359 (.aload_n 2) 1 360 := ⟨by decide +kernel, rfl⟩
theorem dL_law_360 : ml_d cL_law 360 (.iload 12) 2 362 := ⟨by decide +kernel, rfl⟩
theorem dL_law_362 : ml_d cL_law 362 (.aload 7) 2 364 := ⟨by decide +kernel, rfl⟩
theorem dL_law_364 : ml_d cL_law 364 (.bipush 8) 2 366 := ⟨by decide +kernel, rfl⟩
theorem dL_law_366 : ml_d cL_law 366 (.iload 12) 2 368 := ⟨by decide +kernel, rfl⟩
theorem dL_law_368 : ml_d cL_law 368 (.imul) 1 369 := ⟨by decide +kernel, rfl⟩
theorem dL_law_369 : ml_d cL_law 369 (.iconst 5) 1 370 := ⟨by decide +kernel, rfl⟩
theorem dL_law_370 : ml_d cL_law 370 (.iadd) 1 371 := ⟨by decide +kernel, rfl⟩
theorem dL_law_371 : ml_d cL_law 371 (.iaload) 1 372 := ⟨by decide +kernel, rfl⟩
theorem dL_law_372 : ml_d cL_law 372 (.aload 7) 2 374 := ⟨by decide +kernel, rfl⟩
theorem dL_law_374 : ml_d cL_law 374 (.bipush 8) 2 376 := ⟨by decide +kernel, rfl⟩
theorem dL_law_376 : ml_d cL_law 376 (.iload 12) 2 378 := ⟨by decide +kernel, rfl⟩
theorem dL_law_378 : ml_d cL_law 378 (.imul) 1 379 := ⟨by decide +kernel, rfl⟩
theorem dL_law_379 : ml_d cL_law 379 (.bipush 6) 2 381 := ⟨by decide +kernel, rfl⟩
theorem dL_law_381 : ml_d cL_law 381 (.iadd) 1 382 := ⟨by decide +kernel, rfl⟩
theorem dL_law_382 : ml_d cL_law 382 (.iaload) 1 383 := ⟨by decide +kernel, rfl⟩
theorem dL_law_383 : ml_d cL_law 383 (.iconst 1) 1 384 := ⟨by decide +kernel, rfl⟩
theorem dL_law_384 : ml_j cL_law 384 (.if_icmp .ne) 391 387 := ⟨7, by decide +kernel, by decide, rfl⟩
theorem dL_law_387 : ml_d cL_law 387 (.iconst 1) 1 388 := ⟨by decide +kernel, rfl⟩
theorem dL_law_388 : ml_j cL_law 388 .goto 392 391 := ⟨4, by decide +kernel, by decide, rfl⟩
theorem dL_law_391 : ml_d cL_law 391 (.iconst 0) 1 392 := ⟨by decide +kernel, rfl⟩
theorem dL_law_392 : ml_d cL_law 392 (.invokevirtual 41) 3 395 := ⟨by decide +kernel, rfl⟩
theorem dL_law_395 : ml_d cL_law 395 (.iconst 1) 1 396 := ⟨by decide +kernel, rfl⟩
theorem dL_law_396 : ml_j cL_law 396 (.if_icmp .eq) 401 399 := ⟨5, by decide +kernel, by decide, rfl⟩
theorem dL_law_399 : ml_d cL_law 399 (.iconst 0) 1 400 := ⟨by decide +kernel, rfl⟩
theorem dL_law_400 : ml_d cL_law 400 (.ireturn) 1 401 := ⟨by decide +kernel, rfl⟩
theorem dL_law_401 : ml_d cL_law 401 (.aload_n 1) 1 402 := ⟨by decide +kernel, rfl⟩
theorem dL_law_402 : ml_d cL_law 402 (.iload 12) 2 404 := ⟨by decide +kernel, rfl⟩
theorem dL_law_404 : ml_d cL_law 404 (.invokevirtual 60) 3 407 := ⟨by decide +kernel, rfl⟩
theorem dL_law_407 : ml_d cL_law 407 (.istore 16) 2 409 := ⟨by decide +kernel, rfl⟩
theorem dL_law_409 : ml_d cL_law 409 (.aload_n 2) 1 410 := ⟨by decide +kernel, rfl⟩
theorem dL_law_410 : ml_d cL_law 410 (.iload 12) 2 412 := ⟨by decide +kernel, rfl⟩
theorem dL_law_412 : ml_d cL_law 412 (.invokevirtual 60) 3 415 := ⟨by decide +kernel, rfl⟩
theorem dL_law_415 : ml_d cL_law 415 (.istore 17) 2 417 := ⟨by decide +kernel, rfl⟩
theorem dL_law_417 : ml_d cL_law 417 (.iconst 0) 1 418 := ⟨by decide +kernel, rfl⟩
theorem dL_law_418 : ml_d cL_law 418 (.istore 18) 2 420 := ⟨by decide +kernel, rfl⟩
theorem dL_law_420 : ml_d cL_law 420 (.iload 18) 2 422 := ⟨by decide +kernel, rfl⟩
theorem dL_law_422 : ml_d cL_law 422 (.iload 8) 2 424 := ⟨by decide +kernel, rfl⟩
theorem dL_law_424 : ml_j cL_law 424 (.if_icmp .ge) 457 427 := ⟨33, by decide +kernel, by decide, rfl⟩
theorem dL_law_427 : ml_d cL_law 427 (.iload 16) 2 429 := ⟨by decide +kernel, rfl⟩
theorem dL_law_429 : ml_d cL_law 429 (.iload 18) 2 431 := ⟨by decide +kernel, rfl⟩
theorem dL_law_431 : ml_d cL_law 431 (.ishr) 1 432 := ⟨by decide +kernel, rfl⟩
theorem dL_law_432 : ml_d cL_law 432 (.iconst 1) 1 433 := ⟨by decide +kernel, rfl⟩
theorem dL_law_433 : ml_d cL_law 433 (.iand) 1 434 := ⟨by decide +kernel, rfl⟩
theorem dL_law_434 : ml_d cL_law 434 (.iload 17) 2 436 := ⟨by decide +kernel, rfl⟩
theorem dL_law_436 : ml_d cL_law 436 (.iload 8) 2 438 := ⟨by decide +kernel, rfl⟩
theorem dL_law_438 : ml_d cL_law 438 (.iconst 1) 1 439 := ⟨by decide +kernel, rfl⟩
theorem dL_law_439 : ml_d cL_law 439 (.isub) 1 440 := ⟨by decide +kernel, rfl⟩
theorem dL_law_440 : ml_d cL_law 440 (.iload 18) 2 442 := ⟨by decide +kernel, rfl⟩
theorem dL_law_442 : ml_d cL_law 442 (.isub) 1 443 := ⟨by decide +kernel, rfl⟩
theorem dL_law_443 : ml_d cL_law 443 (.ishr) 1 444 := ⟨by decide +kernel, rfl⟩
theorem dL_law_444 : ml_d cL_law 444 (.iconst 1) 1 445 := ⟨by decide +kernel, rfl⟩
theorem dL_law_445 : ml_d cL_law 445 (.iand) 1 446 := ⟨by decide +kernel, rfl⟩
theorem dL_law_446 : ml_j cL_law 446 (.if_icmp .eq) 451 449 := ⟨5, by decide +kernel, by decide, rfl⟩
theorem dL_law_449 : ml_d cL_law 449 (.iconst 0) 1 450 := ⟨by decide +kernel, rfl⟩
theorem dL_law_450 : ml_d cL_law 450 (.ireturn) 1 451 := ⟨by decide +kernel, rfl⟩
theorem dL_law_451 : ml_d cL_law 451 (.iinc 18 1) 3 454 := ⟨by decide +kernel, rfl⟩
theorem dL_law_454 : ml_j cL_law 454 .goto 420 457 := ⟨(-34), by decide +kernel, by decide, rfl⟩
theorem dL_law_457 : ml_d cL_law 457 (.iload 13) 2 459 := ⟨by decide +kernel, rfl⟩
theorem dL_law_459 : ml_d cL_law 459 (.iconst 5) 1 460 := ⟨by decide +kernel, rfl⟩
theorem dL_law_460 : ml_j cL_law 460 (.if_icmp .ne) 525 463 := ⟨65, by decide +kernel, by decide, rfl⟩
theorem dL_law_463 : ml_d cL_law 463 (.iconst 0) 1 464 := ⟨by decide +kernel, rfl⟩
theorem dL_law_464 : ml_d cL_law 464 (.istore 18) 2 466 := ⟨by decide +kernel, rfl⟩
theorem dL_law_466 : ml_d cL_law 466 (.iconst 0) 1 467 := ⟨by decide +kernel, rfl⟩
theorem dL_law_467 : ml_d cL_law 467 (.istore 19) 2 469 := ⟨by decide +kernel, rfl⟩
theorem dL_law_469 : ml_d cL_law 469 (.iload 19) 2 471 := ⟨by decide +kernel, rfl⟩
theorem dL_law_471 : ml_d cL_law 471 (.iconst 5) 1 472 := ⟨by decide +kernel, rfl⟩
theorem dL_law_472 : ml_j cL_law 472 (.if_icmp .ge) 514 475 := ⟨42, by decide +kernel, by decide, rfl⟩
theorem dL_law_475 : ml_d cL_law 475 (.aload_n 1) 1 476 := ⟨by decide +kernel, rfl⟩
theorem dL_law_476 : ml_d cL_law 476 (.iload 19) 2 478 := ⟨by decide +kernel, rfl⟩
theorem dL_law_478 : ml_d cL_law 478 (.invokevirtual 62) 3 481 := ⟨by decide +kernel, rfl⟩
theorem dL_law_481 : ml_j cL_law 481 (.ifCond .lt) 498 484 := ⟨17, by decide +kernel, by decide, rfl⟩
theorem dL_law_484 : ml_d cL_law 484 (.iload 18) 2 486 := ⟨by decide +kernel, rfl⟩
theorem dL_law_486 : ml_d cL_law 486 (.aload_n 1) 1 487 := ⟨by decide +kernel, rfl⟩
theorem dL_law_487 : ml_d cL_law 487 (.iload 12) 2 489 := ⟨by decide +kernel, rfl⟩
theorem dL_law_489 : ml_d cL_law 489 (.invokevirtual 65) 3 492 := ⟨by decide +kernel, rfl⟩
theorem dL_law_492 : ml_d cL_law 492 (.iconst (-1)) 1 493 := ⟨by decide +kernel, rfl⟩
theorem dL_law_493 : ml_d cL_law 493 (.ixor) 1 494 := ⟨by decide +kernel, rfl⟩
theorem dL_law_494 : ml_d cL_law 494 (.iand) 1 495 := ⟨by decide +kernel, rfl⟩
theorem dL_law_495 : ml_j cL_law 495 (.ifCond .eq) 500 498 := ⟨5, by decide +kernel, by decide, rfl⟩
theorem dL_law_498 : ml_d cL_law 498 (.iconst 0) 1 499 := ⟨by decide +kernel, rfl⟩
theorem dL_law_499 : ml_d cL_law 499 (.ireturn) 1 500 := ⟨by decide +kernel, rfl⟩
theorem dL_law_500 : ml_d cL_law 500 (.aload_n 1) 1 501 := ⟨by decide +kernel, rfl⟩
theorem dL_law_501 : ml_d cL_law 501 (.iload 12) 2 503 := ⟨by decide +kernel, rfl⟩
theorem dL_law_503 : ml_d cL_law 503 (.invokevirtual 65) 3 506 := ⟨by decide +kernel, rfl⟩
theorem dL_law_506 : ml_d cL_law 506 (.istore 18) 2 508 := ⟨by decide +kernel, rfl⟩
theorem dL_law_508 : ml_d cL_law 508 (.iinc 19 1) 3 511 := ⟨by decide +kernel, rfl⟩
theorem dL_law_511 : ml_j cL_law 511 .goto 469 514 := ⟨(-42), by decide +kernel, by decide, rfl⟩
theorem dL_law_514 : ml_d cL_law 514 (.aload_n 1) 1 515 := ⟨by decide +kernel, rfl⟩
theorem dL_law_515 : ml_d cL_law 515 (.iconst 1) 1 516 := ⟨by decide +kernel, rfl⟩
theorem dL_law_516 : ml_d cL_law 516 (.invokevirtual 62) 3 519 := ⟨by decide +kernel, rfl⟩
theorem dL_law_519 : ml_d cL_law 519 (.iconst 4) 1 520 := ⟨by decide +kernel, rfl⟩
theorem dL_law_520 : ml_j cL_law 520 (.if_icmp .eq) 525 523 := ⟨5, by decide +kernel, by decide, rfl⟩
theorem dL_law_523 : ml_d cL_law 523 (.iconst 0) 1 524 := ⟨by decide +kernel, rfl⟩
theorem dL_law_524 : ml_d cL_law 524 (.ireturn) 1 525 := ⟨by decide +kernel, rfl⟩
theorem dL_law_525 : ml_d cL_law 525 (.iinc 12 1) 3 528 := ⟨by decide +kernel, rfl⟩
theorem dL_law_528 : ml_j cL_law 528 .goto 202 531 := ⟨(-326), by decide +kernel, by decide, rfl⟩
theorem dL_law_531 : ml_d cL_law 531 (.aload_n 1) 1 532 := ⟨by decide +kernel, rfl⟩
theorem dL_law_532 : ml_d cL_law 532 (.iconst 0) 1 533 := ⟨by decide +kernel, rfl⟩
theorem dL_law_533 : ml_d cL_law 533 (.invokevirtual 68) 3 536 := ⟨by decide +kernel, rfl⟩
theorem dL_law_536 : ml_d cL_law 536 (.istore 12) 2 538 := ⟨by decide +kernel, rfl⟩
theorem dL_law_538 : ml_d cL_law 538 (.aload_n 2) 1 539 := ⟨by decide +kernel, rfl⟩
theorem dL_law_539 : ml_d cL_law 539 (.iconst 0) 1 540 := ⟨by decide +kernel, rfl⟩
theorem dL_law_540 : ml_d cL_law 540 (.invokevirtual 68) 3 543 := ⟨by decide +kernel, rfl⟩
theorem dL_law_543 : ml_d cL_law 543 (.iload 12) 2 545 := ⟨by decide +kernel, rfl⟩
theorem dL_law_545 : ml_j cL_law 545 (.if_icmp .ne) 628 548 := ⟨83, by decide +kernel, by decide, rfl⟩
theorem dL_law_548 : ml_d cL_law 548 (.aload_n 1) 1 549 := ⟨by decide +kernel, rfl⟩
theorem dL_law_549 : ml_d cL_law 549 (.invokevirtual 71) 3 552 := ⟨by decide +kernel, rfl⟩
theorem dL_law_552 : ml_d cL_law 552 (.aload_n 2) 1 553 := ⟨by decide +kernel, rfl⟩
theorem dL_law_553 : ml_d cL_law 553 (.invokevirtual 71) 3 556 := ⟨by decide +kernel, rfl⟩
theorem dL_law_556 : ml_j cL_law 556 (.if_icmp .ne) 628 559 := ⟨72, by decide +kernel, by decide, rfl⟩
theorem dL_law_559 : ml_d cL_law 559 (.aload_n 1) 1 560 := ⟨by decide +kernel, rfl⟩
theorem dL_law_560 : ml_d cL_law 560 (.invokevirtual 75) 3 563 := ⟨by decide +kernel, rfl⟩
theorem dL_law_563 : ml_d cL_law 563 (.aload_n 2) 1 564 := ⟨by decide +kernel, rfl⟩
theorem dL_law_564 : ml_d cL_law 564 (.invokevirtual 75) 3 567 := ⟨by decide +kernel, rfl⟩
theorem dL_law_567 : ml_d cL_law 567 (.lcmp) 1 568 := ⟨by decide +kernel, rfl⟩
theorem dL_law_568 : ml_j cL_law 568 (.ifCond .ne) 628 571 := ⟨60, by decide +kernel, by decide, rfl⟩
theorem dL_law_571 : ml_d cL_law 571 (.aload_n 1) 1 572 := ⟨by decide +kernel, rfl⟩
theorem dL_law_572 : ml_d cL_law 572 (.invokevirtual 79) 3 575 := ⟨by decide +kernel, rfl⟩
theorem dL_law_575 : ml_d cL_law 575 (.aload_n 2) 1 576 := ⟨by decide +kernel, rfl⟩
theorem dL_law_576 : ml_d cL_law 576 (.invokevirtual 79) 3 579 := ⟨by decide +kernel, rfl⟩
theorem dL_law_579 : ml_j cL_law 579 (.if_icmp .ne) 628 582 := ⟨49, by decide +kernel, by decide, rfl⟩
theorem dL_law_582 : ml_d cL_law 582 (.aload_n 1) 1 583 := ⟨by decide +kernel, rfl⟩
theorem dL_law_583 : ml_d cL_law 583 (.iconst 1) 1 584 := ⟨by decide +kernel, rfl⟩
theorem dL_law_584 : ml_d cL_law 584 (.invokevirtual 82) 3 587 := ⟨by decide +kernel, rfl⟩
theorem dL_law_587 : ml_d cL_law 587 (.aload_n 2) 1 588 := ⟨by decide +kernel, rfl⟩
theorem dL_law_588 : ml_d cL_law 588 (.iconst 1) 1 589 := ⟨by decide +kernel, rfl⟩
theorem dL_law_589 : ml_d cL_law 589 (.invokevirtual 82) 3 592 := ⟨by decide +kernel, rfl⟩
theorem dL_law_592 : ml_j cL_law 592 (.if_icmp .ne) 628 595 := ⟨36, by decide +kernel, by decide, rfl⟩
theorem dL_law_595 : ml_d cL_law 595 (.aload_n 1) 1 596 := ⟨by decide +kernel, rfl⟩
theorem dL_law_596 : ml_d cL_law 596 (.invokevirtual 85) 3 599 := ⟨by decide +kernel, rfl⟩
theorem dL_law_599 : ml_d cL_law 599 (.aload_n 2) 1 600 := ⟨by decide +kernel, rfl⟩
theorem dL_law_600 : ml_d cL_law 600 (.invokevirtual 85) 3 603 := ⟨by decide +kernel, rfl⟩
theorem dL_law_603 : ml_j cL_law 603 (.if_icmp .ne) 628 606 := ⟨25, by decide +kernel, by decide, rfl⟩
theorem dL_law_606 : ml_d cL_law 606 (.aload_n 1) 1 607 := ⟨by decide +kernel, rfl⟩
theorem dL_law_607 : ml_d cL_law 607 (.invokevirtual 88) 3 610 := ⟨by decide +kernel, rfl⟩
theorem dL_law_610 : ml_d cL_law 610 (.aload_n 2) 1 611 := ⟨by decide +kernel, rfl⟩
theorem dL_law_611 : ml_d cL_law 611 (.invokevirtual 88) 3 614 := ⟨by decide +kernel, rfl⟩
theorem dL_law_614 : ml_j cL_law 614 (.if_icmp .ne) 628 617 := ⟨14, by decide +kernel, by decide, rfl⟩
theorem dL_law_617 : ml_d cL_law 617 (.aload_n 1) 1 618 := ⟨by decide +kernel, rfl⟩
theorem dL_law_618 : ml_d cL_law 618 (.invokevirtual 91) 3 621 := ⟨by decide +kernel, rfl⟩
theorem dL_law_621 : ml_d cL_law 621 (.aload_n 2) 1 622 := ⟨by decide +kernel, rfl⟩
theorem dL_law_622 : ml_d cL_law 622 (.invokevirtual 91) 3 625 := ⟨by decide +kernel, rfl⟩
theorem dL_law_625 : ml_j cL_law 625 (.if_icmp .eq) 630 628 := ⟨5, by decide +kernel, by decide, rfl⟩
theorem dL_law_628 : ml_d cL_law 628 (.iconst 0) 1 629 := ⟨by decide +kernel, rfl⟩
theorem dL_law_629 : ml_d cL_law 629 (.ireturn) 1 630 := ⟨by decide +kernel, rfl⟩
theorem dL_law_630 : ml_d cL_law 630 (.iconst 0) 1 631 := ⟨by decide +kernel, rfl⟩
theorem dL_law_631 : ml_d cL_law 631 (.istore 13) 2 633 := ⟨by decide +kernel, rfl⟩
theorem dL_law_633 : ml_d cL_law 633 (.iconst 0) 1 634 := ⟨by decide +kernel, rfl⟩
theorem dL_law_634 : ml_d cL_law 634 (.istore 14) 2 636 := ⟨by decide +kernel, rfl⟩
theorem dL_law_636 : ml_d cL_law 636 (.iload 14) 2 638 := ⟨by decide +kernel, rfl⟩
theorem dL_law_638 : ml_d cL_law 638 (.iload 11) 2 640 := ⟨by decide +kernel, rfl⟩
theorem dL_law_640 : ml_j cL_law 640 (.if_icmp .gt) 861 643 := ⟨221, by decide +kernel, by decide, rfl⟩
theorem dL_law_643 : ml_d cL_law 643 (.aload_n 1) 1 644 := ⟨by decide +kernel, rfl⟩
theorem dL_law_644 : ml_d cL_law 644 (.iload 14) 2 646 := ⟨by decide +kernel, rfl⟩
theorem dL_law_646 : ml_d cL_law 646 (.invokevirtual 94) 3 649 := ⟨by decide +kernel, rfl⟩
theorem dL_law_649 : ml_d cL_law 649 (.istore 15) 2 651 := ⟨by decide +kernel, rfl⟩
theorem dL_law_651 : ml_d cL_law 651 (.aload_n 1) 1 652 := ⟨by decide +kernel, rfl⟩
theorem dL_law_652 : ml_d cL_law 652 (.iload 14) 2 654 := ⟨by decide +kernel, rfl⟩
theorem dL_law_654 : ml_d cL_law 654 (.invokevirtual 97) 3 657 := ⟨by decide +kernel, rfl⟩
theorem dL_law_657 : ml_d cL_law 657 (.istore 16) 2 659 := ⟨by decide +kernel, rfl⟩
theorem dL_law_659 : ml_d cL_law 659 (.aload_n 1) 1 660 := ⟨by decide +kernel, rfl⟩
theorem dL_law_660 : ml_d cL_law 660 (.invokevirtual 100) 3 663 := ⟨by decide +kernel, rfl⟩
theorem dL_law_663 : ml_d cL_law 663 (.istore 17) 2 665 := ⟨by decide +kernel, rfl⟩
theorem dL_law_665 : ml_d cL_law 665 (.aload_n 1) 1 666 := ⟨by decide +kernel, rfl⟩
theorem dL_law_666 : ml_d cL_law 666 (.iload 14) 2 668 := ⟨by decide +kernel, rfl⟩
theorem dL_law_668 : ml_d cL_law 668 (.invokevirtual 103) 3 671 := ⟨by decide +kernel, rfl⟩
theorem dL_law_671 : ml_d cL_law 671 (.istore 18) 2 673 := ⟨by decide +kernel, rfl⟩
theorem dL_law_673 : ml_d cL_law 673 (.aload_n 1) 1 674 := ⟨by decide +kernel, rfl⟩
theorem dL_law_674 : ml_d cL_law 674 (.invokevirtual 100) 3 677 := ⟨by decide +kernel, rfl⟩
theorem dL_law_677 : ml_d cL_law 677 (.istore 19) 2 679 := ⟨by decide +kernel, rfl⟩
theorem dL_law_679 : ml_d cL_law 679 (.aload_n 2) 1 680 := ⟨by decide +kernel, rfl⟩
theorem dL_law_680 : ml_d cL_law 680 (.iload 14) 2 682 := ⟨by decide +kernel, rfl⟩
theorem dL_law_682 : ml_d cL_law 682 (.invokevirtual 94) 3 685 := ⟨by decide +kernel, rfl⟩
theorem dL_law_685 : ml_d cL_law 685 (.iload 15) 2 687 := ⟨by decide +kernel, rfl⟩
theorem dL_law_687 : ml_j cL_law 687 (.if_icmp .ne) 793 690 := ⟨106, by decide +kernel, by decide, rfl⟩
theorem dL_law_690 : ml_d cL_law 690 (.iload 15) 2 692 := ⟨by decide +kernel, rfl⟩
theorem dL_law_692 : ml_d cL_law 692 (.iload 13) 2 694 := ⟨by decide +kernel, rfl⟩
theorem dL_law_694 : ml_j cL_law 694 (.if_icmp .lt) 793 697 := ⟨99, by decide +kernel, by decide, rfl⟩
theorem dL_law_697 : ml_d cL_law 697 (.iload 15) 2 699 := ⟨by decide +kernel, rfl⟩
theorem dL_law_699 : ml_j cL_law 699 (.ifCond .le) 706 702 := ⟨7, by decide +kernel, by decide, rfl⟩
theorem dL_law_702 : ml_d cL_law 702 (.iconst 1) 1 703 := ⟨by decide +kernel, rfl⟩
theorem dL_law_703 : ml_j cL_law 703 .goto 707 706 := ⟨4, by decide +kernel, by decide, rfl⟩
theorem dL_law_706 : ml_d cL_law 706 (.iconst 0) 1 707 := ⟨by decide +kernel, rfl⟩
theorem dL_law_707 : ml_d cL_law 707 (.iload 12) 2 709 := ⟨by decide +kernel, rfl⟩
theorem dL_law_709 : ml_j cL_law 709 (.ifCond .lt) 723 712 := ⟨14, by decide +kernel, by decide, rfl⟩
theorem dL_law_712 : ml_d cL_law 712 (.iload 12) 2 714 := ⟨by decide +kernel, rfl⟩
theorem dL_law_714 : ml_d cL_law 714 (.iload 14) 2 716 := ⟨by decide +kernel, rfl⟩
theorem dL_law_716 : ml_j cL_law 716 (.if_icmp .gt) 723 719 := ⟨7, by decide +kernel, by decide, rfl⟩
theorem dL_law_719 : ml_d cL_law 719 (.iconst 1) 1 720 := ⟨by decide +kernel, rfl⟩
theorem dL_law_720 : ml_j cL_law 720 .goto 724 723 := ⟨4, by decide +kernel, by decide, rfl⟩
theorem dL_law_723 : ml_d cL_law 723 (.iconst 0) 1 724 := ⟨by decide +kernel, rfl⟩
theorem dL_law_724 : ml_j cL_law 724 (.if_icmp .ne) 793 727 := ⟨69, by decide +kernel, by decide, rfl⟩
theorem dL_law_727 : ml_d cL_law 727 (.iload 16) 2 729 := ⟨by decide +kernel, rfl⟩
theorem dL_law_729 : ml_j cL_law 729 (.ifCond .lt) 736 732 := ⟨7, by decide +kernel, by decide, rfl⟩
theorem dL_law_732 : ml_d cL_law 732 (.iconst 1) 1 733 := ⟨by decide +kernel, rfl⟩
theorem dL_law_733 : ml_j cL_law 733 .goto 737 736 := ⟨4, by decide +kernel, by decide, rfl⟩
theorem dL_law_736 : ml_d cL_law 736 (.iconst 0) 1 737 := ⟨by decide +kernel, rfl⟩
theorem dL_law_737 : ml_d cL_law 737 (.iload 15) 2 739 := ⟨by decide +kernel, rfl⟩
theorem dL_law_739 : ml_j cL_law 739 (.ifCond .le) 746 742 := ⟨7, by decide +kernel, by decide, rfl⟩
theorem dL_law_742 : ml_d cL_law 742 (.iconst 1) 1 743 := ⟨by decide +kernel, rfl⟩
theorem dL_law_743 : ml_j cL_law 743 .goto 747 746 := ⟨4, by decide +kernel, by decide, rfl⟩
theorem dL_law_746 : ml_d cL_law 746 (.iconst 0) 1 747 := ⟨by decide +kernel, rfl⟩
theorem dL_law_747 : ml_j cL_law 747 (.if_icmp .ne) 793 750 := ⟨46, by decide +kernel, by decide, rfl⟩
theorem dL_law_750 : ml_d cL_law 750 (.iload 16) 2 752 := ⟨by decide +kernel, rfl⟩
theorem dL_law_752 : ml_j cL_law 752 (.ifCond .lt) 795 755 := ⟨43, by decide +kernel, by decide, rfl⟩
theorem dL_law_755 : ml_d cL_law 755 (.iload 16) 2 757 := ⟨by decide +kernel, rfl⟩
theorem dL_law_757 : ml_d cL_law 757 (.iload 17) 2 759 := ⟨by decide +kernel, rfl⟩
theorem dL_law_759 : ml_d cL_law 759 (.iconst (-1)) 1 760 := ⟨by decide +kernel, rfl⟩
theorem dL_law_760 : ml_d cL_law 760 (.ixor) 1 761 := ⟨by decide +kernel, rfl⟩
theorem dL_law_761 : ml_d cL_law 761 (.iand) 1 762 := ⟨by decide +kernel, rfl⟩
theorem dL_law_762 : ml_j cL_law 762 (.ifCond .ne) 793 765 := ⟨31, by decide +kernel, by decide, rfl⟩
theorem dL_law_765 : ml_d cL_law 765 (.iload 16) 2 767 := ⟨by decide +kernel, rfl⟩
theorem dL_law_767 : ml_d cL_law 767 (.invokestatic 106) 3 770 := ⟨by decide +kernel, rfl⟩
theorem dL_law_770 : ml_d cL_law 770 (.iload 9) 2 772 := ⟨by decide +kernel, rfl⟩
theorem dL_law_772 : ml_j cL_law 772 (.if_icmp .gt) 793 775 := ⟨21, by decide +kernel, by decide, rfl⟩
theorem dL_law_775 : ml_d cL_law 775 (.iload 19) 2 777 := ⟨by decide +kernel, rfl⟩
theorem dL_law_777 : ml_d cL_law 777 (.iload 15) 2 779 := ⟨by decide +kernel, rfl⟩
theorem dL_law_779 : ml_j cL_law 779 (.if_icmp .gt) 793 782 := ⟨14, by decide +kernel, by decide, rfl⟩
theorem dL_law_782 : ml_d cL_law 782 (.iload 19) 2 784 := ⟨by decide +kernel, rfl⟩
theorem dL_law_784 : ml_d cL_law 784 (.iconst 1) 1 785 := ⟨by decide +kernel, rfl⟩
theorem dL_law_785 : ml_j cL_law 785 (.if_icmp .lt) 793 788 := ⟨8, by decide +kernel, by decide, rfl⟩
theorem dL_law_788 : ml_d cL_law 788 (.iload 18) 2 790 := ⟨by decide +kernel, rfl⟩
theorem dL_law_790 : ml_j cL_law 790 (.ifCond .ge) 795 793 := ⟨5, by decide +kernel, by decide, rfl⟩
theorem dL_law_793 : ml_d cL_law 793 (.iconst 0) 1 794 := ⟨by decide +kernel, rfl⟩
theorem dL_law_794 : ml_d cL_law 794 (.ireturn) 1 795 := ⟨by decide +kernel, rfl⟩
theorem dL_law_795 : ml_d cL_law 795 (.iconst 0) 1 796 := ⟨by decide +kernel, rfl⟩
theorem dL_law_796 : ml_d cL_law 796 (.istore 20) 2 798 := ⟨by decide +kernel, rfl⟩
theorem dL_law_798 : ml_d cL_law 798 (.iconst 0) 1 799 := ⟨by decide +kernel, rfl⟩
theorem dL_law_799 : ml_d cL_law 799 (.istore 21) 2 801 := ⟨by decide +kernel, rfl⟩
theorem dL_law_801 : ml_d cL_law 801 (.iload 21) 2 803 := ⟨by decide +kernel, rfl⟩
theorem dL_law_803 : ml_d cL_law 803 (.iload 9) 2 805 := ⟨by decide +kernel, rfl⟩
theorem dL_law_805 : ml_j cL_law 805 (.if_icmp .ge) 827 808 := ⟨22, by decide +kernel, by decide, rfl⟩
theorem dL_law_808 : ml_d cL_law 808 (.iload 20) 2 810 := ⟨by decide +kernel, rfl⟩
theorem dL_law_810 : ml_d cL_law 810 (.aload_n 1) 1 811 := ⟨by decide +kernel, rfl⟩
theorem dL_law_811 : ml_d cL_law 811 (.iload 21) 2 813 := ⟨by decide +kernel, rfl⟩
theorem dL_law_813 : ml_d cL_law 813 (.iload 14) 2 815 := ⟨by decide +kernel, rfl⟩
theorem dL_law_815 : ml_d cL_law 815 (.invokevirtual 109) 3 818 := ⟨by decide +kernel, rfl⟩
theorem dL_law_818 : ml_d cL_law 818 (.ior) 1 819 := ⟨by decide +kernel, rfl⟩
theorem dL_law_819 : ml_d cL_law 819 (.istore 20) 2 821 := ⟨by decide +kernel, rfl⟩
theorem dL_law_821 : ml_d cL_law 821 (.iinc 21 1) 3 824 := ⟨by decide +kernel, rfl⟩
theorem dL_law_824 : ml_j cL_law 824 .goto 801 827 := ⟨(-23), by decide +kernel, by decide, rfl⟩
theorem dL_law_827 : ml_d cL_law 827 (.iload 15) 2 829 := ⟨by decide +kernel, rfl⟩
theorem dL_law_829 : ml_j cL_law 829 (.ifCond .le) 839 832 := ⟨10, by decide +kernel, by decide, rfl⟩
theorem dL_law_832 : ml_d cL_law 832 (.iload 20) 2 834 := ⟨by decide +kernel, rfl⟩
theorem dL_law_834 : ml_d cL_law 834 (.iload 17) 2 836 := ⟨by decide +kernel, rfl⟩
theorem dL_law_836 : ml_j cL_law 836 (.if_icmp .ne) 849 839 := ⟨13, by decide +kernel, by decide, rfl⟩
theorem dL_law_839 : ml_d cL_law 839 (.iload 15) 2 841 := ⟨by decide +kernel, rfl⟩
theorem dL_law_841 : ml_j cL_law 841 (.ifCond .ne) 851 844 := ⟨10, by decide +kernel, by decide, rfl⟩
theorem dL_law_844 : ml_d cL_law 844 (.iload 20) 2 846 := ⟨by decide +kernel, rfl⟩
theorem dL_law_846 : ml_j cL_law 846 (.ifCond .eq) 851 849 := ⟨5, by decide +kernel, by decide, rfl⟩
theorem dL_law_849 : ml_d cL_law 849 (.iconst 0) 1 850 := ⟨by decide +kernel, rfl⟩
theorem dL_law_850 : ml_d cL_law 850 (.ireturn) 1 851 := ⟨by decide +kernel, rfl⟩
theorem dL_law_851 : ml_d cL_law 851 (.iload 15) 2 853 := ⟨by decide +kernel, rfl⟩
theorem dL_law_853 : ml_d cL_law 853 (.istore 13) 2 855 := ⟨by decide +kernel, rfl⟩
theorem dL_law_855 : ml_d cL_law 855 (.iinc 14 1) 3 858 := ⟨by decide +kernel, rfl⟩
theorem dL_law_858 : ml_j cL_law 858 .goto 636 861 := ⟨(-222), by decide +kernel, by decide, rfl⟩
theorem dL_law_861 : ml_d cL_law 861 (.iload 12) 2 863 := ⟨by decide +kernel, rfl⟩
theorem dL_law_863 : ml_j cL_law 863 (.ifCond .lt) 1019 866 := ⟨156, by decide +kernel, by decide, rfl⟩
theorem dL_law_866 : ml_d cL_law 866 (.aload_n 1) 1 867 := ⟨by decide +kernel, rfl⟩
theorem dL_law_867 : ml_d cL_law 867 (.iconst 0) 1 868 := ⟨by decide +kernel, rfl⟩
theorem dL_law_868 : ml_d cL_law 868 (.invokevirtual 68) 3 871 := ⟨by decide +kernel, rfl⟩
theorem dL_law_871 : ml_d cL_law 871 (.iload 12) 2 873 := ⟨by decide +kernel, rfl⟩
theorem dL_law_873 : ml_j cL_law 873 (.if_icmp .ne) 887 876 := ⟨14, by decide +kernel, by decide, rfl⟩
theorem dL_law_876 : ml_d cL_law 876 (.aload_n 1) 1 877 := ⟨by decide +kernel, rfl⟩
theorem dL_law_877 : ml_d cL_law 877 (.iconst 0) 1 878 := ⟨by decide +kernel, rfl⟩
theorem dL_law_878 : ml_d cL_law 878 (.iconst 2) 1 879 := ⟨by decide +kernel, rfl⟩
theorem dL_law_879 : ml_d cL_law 879 (.invokevirtual 112) 3 882 := ⟨by decide +kernel, rfl⟩
theorem dL_law_882 : ml_d cL_law 882 (.iload 12) 2 884 := ⟨by decide +kernel, rfl⟩
theorem dL_law_884 : ml_j cL_law 884 (.if_icmp .eq) 889 887 := ⟨5, by decide +kernel, by decide, rfl⟩
theorem dL_law_887 : ml_d cL_law 887 (.iconst 0) 1 888 := ⟨by decide +kernel, rfl⟩
theorem dL_law_888 : ml_d cL_law 888 (.ireturn) 1 889 := ⟨by decide +kernel, rfl⟩
theorem dL_law_889 : ml_d cL_law 889 (.iconst 0) 1 890 := ⟨by decide +kernel, rfl⟩
theorem dL_law_890 : ml_d cL_law 890 (.istore 14) 2 892 := ⟨by decide +kernel, rfl⟩
theorem dL_law_892 : ml_d cL_law 892 (.iload 14) 2 894 := ⟨by decide +kernel, rfl⟩
theorem dL_law_894 : ml_d cL_law 894 (.iload 12) 2 896 := ⟨by decide +kernel, rfl⟩
theorem dL_law_896 : ml_j cL_law 896 (.if_icmp .ge) 991 899 := ⟨95, by decide +kernel, by decide, rfl⟩
theorem dL_law_899 : ml_d cL_law 899 (.aload_n 1) 1 900 := ⟨by decide +kernel, rfl⟩
theorem dL_law_900 : ml_d cL_law 900 (.iconst 2) 1 901 := ⟨by decide +kernel, rfl⟩
theorem dL_law_901 : ml_d cL_law 901 (.iconst 2) 1 902 := ⟨by decide +kernel, rfl⟩
theorem dL_law_902 : ml_d cL_law 902 (.iload 14) 2 904 := ⟨by decide +kernel, rfl⟩
theorem dL_law_904 : ml_d cL_law 904 (.imul) 1 905 := ⟨by decide +kernel, rfl⟩
theorem dL_law_905 : ml_d cL_law 905 (.invokevirtual 115) 3 908 := ⟨by decide +kernel, rfl⟩
theorem dL_law_908 : ml_d cL_law 908 (.iconst 1) 1 909 := ⟨by decide +kernel, rfl⟩
theorem dL_law_909 : ml_j cL_law 909 (.if_icmp .ne) 919 912 := ⟨10, by decide +kernel, by decide, rfl⟩
theorem dL_law_912 : ml_d cL_law 912 (.aload_n 1) 1 913 := ⟨by decide +kernel, rfl⟩
theorem dL_law_913 : ml_d cL_law 913 (.invokevirtual 100) 3 916 := ⟨by decide +kernel, rfl⟩
theorem dL_law_916 : ml_j cL_law 916 .goto 920 919 := ⟨4, by decide +kernel, by decide, rfl⟩
theorem dL_law_919 : ml_d cL_law 919 (.iconst (-1)) 1 920 := ⟨by decide +kernel, rfl⟩
theorem dL_law_920 : ml_d cL_law 920 (.istore 15) 2 922 := ⟨by decide +kernel, rfl⟩
theorem dL_law_922 : ml_d cL_law 922 (.aload_n 1) 1 923 := ⟨by decide +kernel, rfl⟩
theorem dL_law_923 : ml_d cL_law 923 (.iconst 2) 1 924 := ⟨by decide +kernel, rfl⟩
theorem dL_law_924 : ml_d cL_law 924 (.iconst 2) 1 925 := ⟨by decide +kernel, rfl⟩
theorem dL_law_925 : ml_d cL_law 925 (.iload 14) 2 927 := ⟨by decide +kernel, rfl⟩
theorem dL_law_927 : ml_d cL_law 927 (.imul) 1 928 := ⟨by decide +kernel, rfl⟩
theorem dL_law_928 : ml_d cL_law 928 (.iconst 1) 1 929 := ⟨by decide +kernel, rfl⟩
theorem dL_law_929 : ml_d cL_law 929 (.iadd) 1 930 := ⟨by decide +kernel, rfl⟩
theorem dL_law_930 : ml_d cL_law 930 (.invokevirtual 115) 3 933 := ⟨by decide +kernel, rfl⟩
theorem dL_law_933 : ml_d cL_law 933 (.iconst 1) 1 934 := ⟨by decide +kernel, rfl⟩
theorem dL_law_934 : ml_j cL_law 934 (.if_icmp .ne) 944 937 := ⟨10, by decide +kernel, by decide, rfl⟩
theorem dL_law_937 : ml_d cL_law 937 (.aload_n 1) 1 938 := ⟨by decide +kernel, rfl⟩
theorem dL_law_938 : ml_d cL_law 938 (.invokevirtual 100) 3 941 := ⟨by decide +kernel, rfl⟩
theorem dL_law_941 : ml_j cL_law 941 .goto 945 944 := ⟨4, by decide +kernel, by decide, rfl⟩
theorem dL_law_944 : ml_d cL_law 944 (.iconst (-1)) 1 945 := ⟨by decide +kernel, rfl⟩
theorem dL_law_945 : ml_d cL_law 945 (.istore 16) 2 947 := ⟨by decide +kernel, rfl⟩
theorem dL_law_947 : ml_d cL_law 947 (.aload_n 1) 1 948 := ⟨by decide +kernel, rfl⟩
theorem dL_law_948 : ml_d cL_law 948 (.iload 15) 2 950 := ⟨by decide +kernel, rfl⟩
theorem dL_law_950 : ml_d cL_law 950 (.iconst 4) 1 951 := ⟨by decide +kernel, rfl⟩
theorem dL_law_951 : ml_d cL_law 951 (.invokevirtual 118) 3 954 := ⟨by decide +kernel, rfl⟩
theorem dL_law_954 : ml_d cL_law 954 (.iconst 1) 1 955 := ⟨by decide +kernel, rfl⟩
theorem dL_law_955 : ml_j cL_law 955 (.if_icmp .ne) 983 958 := ⟨28, by decide +kernel, by decide, rfl⟩
theorem dL_law_958 : ml_d cL_law 958 (.aload_n 1) 1 959 := ⟨by decide +kernel, rfl⟩
theorem dL_law_959 : ml_d cL_law 959 (.iload 15) 2 961 := ⟨by decide +kernel, rfl⟩
theorem dL_law_961 : ml_d cL_law 961 (.iload 16) 2 963 := ⟨by decide +kernel, rfl⟩
theorem dL_law_963 : ml_d cL_law 963 (.aload_n 1) 1 964 := ⟨by decide +kernel, rfl⟩
theorem dL_law_964 : ml_d cL_law 964 (.invokevirtual 100) 3 967 := ⟨by decide +kernel, rfl⟩
theorem dL_law_967 : ml_d cL_law 967 (.iconst 1) 1 968 := ⟨by decide +kernel, rfl⟩
theorem dL_law_968 : ml_j cL_law 968 (.if_icmp .ne) 975 971 := ⟨7, by decide +kernel, by decide, rfl⟩
theorem dL_law_971 : ml_d cL_law 971 (.iconst 1) 1 972 := ⟨by decide +kernel, rfl⟩
theorem dL_law_972 : ml_j cL_law 972 .goto 976 975 := ⟨4, by decide +kernel, by decide, rfl⟩
theorem dL_law_975 : ml_d cL_law 975 (.iconst 0) 1 976 := ⟨by decide +kernel, rfl⟩
theorem dL_law_976 : ml_d cL_law 976 (.invokevirtual 41) 3 979 := ⟨by decide +kernel, rfl⟩
theorem dL_law_979 : ml_d cL_law 979 (.iconst 1) 1 980 := ⟨by decide +kernel, rfl⟩
theorem dL_law_980 : ml_j cL_law 980 (.if_icmp .eq) 985 983 := ⟨5, by decide +kernel, by decide, rfl⟩
theorem dL_law_983 : ml_d cL_law 983 (.iconst 0) 1 984 := ⟨by decide +kernel, rfl⟩
theorem dL_law_984 : ml_d cL_law 984 (.ireturn) 1 985 := ⟨by decide +kernel, rfl⟩
theorem dL_law_985 : ml_d cL_law 985 (.iinc 14 1) 3 988 := ⟨by decide +kernel, rfl⟩
theorem dL_law_988 : ml_j cL_law 988 .goto 892 991 := ⟨(-96), by decide +kernel, by decide, rfl⟩
theorem dL_law_991 : ml_d cL_law 991 (.aload_n 1) 1 992 := ⟨by decide +kernel, rfl⟩
theorem dL_law_992 : ml_d cL_law 992 (.iconst 0) 1 993 := ⟨by decide +kernel, rfl⟩
theorem dL_law_993 : ml_d cL_law 993 (.iconst 2) 1 994 := ⟨by decide +kernel, rfl⟩
theorem dL_law_994 : ml_d cL_law 994 (.invokevirtual 112) 3 997 := ⟨by decide +kernel, rfl⟩
theorem dL_law_997 : ml_j cL_law 997 (.ifCond .ne) 1017 1000 := ⟨20, by decide +kernel, by decide, rfl⟩
theorem dL_law_1000 : ml_d cL_law 1000 (.aload_n 1) 1 1001 := ⟨by decide +kernel, rfl⟩
theorem dL_law_1001 : ml_d cL_law 1001 (.iconst 3) 1 1002 := ⟨by decide +kernel, rfl⟩
theorem dL_law_1002 : ml_d cL_law 1002 (.invokevirtual 68) 3 1005 := ⟨by decide +kernel, rfl⟩
theorem dL_law_1005 : ml_j cL_law 1005 (.ifCond .ne) 1017 1008 := ⟨12, by decide +kernel, by decide, rfl⟩
theorem dL_law_1008 : ml_d cL_law 1008 (.aload_n 1) 1 1009 := ⟨by decide +kernel, rfl⟩
theorem dL_law_1009 : ml_d cL_law 1009 (.iconst 0) 1 1010 := ⟨by decide +kernel, rfl⟩
theorem dL_law_1010 : ml_d cL_law 1010 (.invokevirtual 94) 3 1013 := ⟨by decide +kernel, rfl⟩
theorem dL_law_1013 : ml_d cL_law 1013 (.iconst 1) 1 1014 := ⟨by decide +kernel, rfl⟩
theorem dL_law_1014 : ml_j cL_law 1014 (.if_icmp .ge) 1019 1017 := ⟨5, by decide +kernel, by decide, rfl⟩
theorem dL_law_1017 : ml_d cL_law 1017 (.iconst 0) 1 1018 := ⟨by decide +kernel, rfl⟩
theorem dL_law_1018 : ml_d cL_law 1018 (.ireturn) 1 1019 := ⟨by decide +kernel, rfl⟩
theorem dL_law_1019 : ml_d cL_law 1019 (.aload_n 1) 1 1020 := ⟨by decide +kernel, rfl⟩
theorem dL_law_1020 : ml_d cL_law 1020 (.invokevirtual 91) 3 1023 := ⟨by decide +kernel, rfl⟩
theorem dL_law_1023 : ml_d cL_law 1023 (.istore 14) 2 1025 := ⟨by decide +kernel, rfl⟩
theorem dL_law_1025 : ml_d cL_law 1025 (.iload 14) 2 1027 := ⟨by decide +kernel, rfl⟩
theorem dL_law_1027 : ml_j cL_law 1027 (.ifCond .lt) 1153 1030 := ⟨126, by decide +kernel, by decide, rfl⟩
theorem dL_law_1030 : ml_d cL_law 1030 (.aload_n 1) 1 1031 := ⟨by decide +kernel, rfl⟩
theorem dL_law_1031 : ml_d cL_law 1031 (.invokevirtual 100) 3 1034 := ⟨by decide +kernel, rfl⟩
theorem dL_law_1034 : ml_d cL_law 1034 (.istore 15) 2 1036 := ⟨by decide +kernel, rfl⟩
theorem dL_law_1036 : ml_d cL_law 1036 (.iconst 0) 1 1037 := ⟨by decide +kernel, rfl⟩
theorem dL_law_1037 : ml_d cL_law 1037 (.istore 16) 2 1039 := ⟨by decide +kernel, rfl⟩
theorem dL_law_1039 : ml_d cL_law 1039 (.iload 16) 2 1041 := ⟨by decide +kernel, rfl⟩
theorem dL_law_1041 : ml_d cL_law 1041 (.iload 11) 2 1043 := ⟨by decide +kernel, rfl⟩
theorem dL_law_1043 : ml_j cL_law 1043 (.if_icmp .ge) 1153 1046 := ⟨110, by decide +kernel, by decide, rfl⟩
theorem dL_law_1046 : ml_d cL_law 1046 (.aload_n 1) 1 1047 := ⟨by decide +kernel, rfl⟩
theorem dL_law_1047 : ml_d cL_law 1047 (.iload 16) 2 1049 := ⟨by decide +kernel, rfl⟩
theorem dL_law_1049 : ml_d cL_law 1049 (.iconst 3) 1 1050 := ⟨by decide +kernel, rfl⟩
theorem dL_law_1050 : ml_d cL_law 1050 (.invokevirtual 118) 3 1053 := ⟨by decide +kernel, rfl⟩
theorem dL_law_1053 : ml_d cL_law 1053 (.iconst 1) 1 1054 := ⟨by decide +kernel, rfl⟩
theorem dL_law_1054 : ml_j cL_law 1054 (.if_icmp .ne) 1064 1057 := ⟨10, by decide +kernel, by decide, rfl⟩
theorem dL_law_1057 : ml_d cL_law 1057 (.aload_n 1) 1 1058 := ⟨by decide +kernel, rfl⟩
theorem dL_law_1058 : ml_d cL_law 1058 (.invokevirtual 100) 3 1061 := ⟨by decide +kernel, rfl⟩
theorem dL_law_1061 : ml_j cL_law 1061 .goto 1066 1064 := ⟨5, by decide +kernel, by decide, rfl⟩
theorem dL_law_1064 : ml_d cL_law 1064 (.bipush (-9)) 2 1066 := ⟨by decide +kernel, rfl⟩
theorem dL_law_1066 : ml_d cL_law 1066 (.istore 17) 2 1068 := ⟨by decide +kernel, rfl⟩
theorem dL_law_1068 : ml_d cL_law 1068 (.aload_n 1) 1 1069 := ⟨by decide +kernel, rfl⟩
theorem dL_law_1069 : ml_d cL_law 1069 (.iload 16) 2 1071 := ⟨by decide +kernel, rfl⟩
theorem dL_law_1071 : ml_d cL_law 1071 (.iconst 4) 1 1072 := ⟨by decide +kernel, rfl⟩
theorem dL_law_1072 : ml_d cL_law 1072 (.invokevirtual 118) 3 1075 := ⟨by decide +kernel, rfl⟩
theorem dL_law_1075 : ml_d cL_law 1075 (.iconst 1) 1 1076 := ⟨by decide +kernel, rfl⟩
theorem dL_law_1076 : ml_j cL_law 1076 (.if_icmp .ne) 1086 1079 := ⟨10, by decide +kernel, by decide, rfl⟩
theorem dL_law_1079 : ml_d cL_law 1079 (.aload_n 1) 1 1080 := ⟨by decide +kernel, rfl⟩
theorem dL_law_1080 : ml_d cL_law 1080 (.invokevirtual 100) 3 1083 := ⟨by decide +kernel, rfl⟩
theorem dL_law_1083 : ml_j cL_law 1083 .goto 1088 1086 := ⟨5, by decide +kernel, by decide, rfl⟩
theorem dL_law_1086 : ml_d cL_law 1086 (.bipush (-9)) 2 1088 := ⟨by decide +kernel, rfl⟩
theorem dL_law_1088 : ml_d cL_law 1088 (.istore 18) 2 1090 := ⟨by decide +kernel, rfl⟩
theorem dL_law_1090 : ml_d cL_law 1090 (.iload 17) 2 1092 := ⟨by decide +kernel, rfl⟩
theorem dL_law_1092 : ml_j cL_law 1092 (.ifCond .lt) 1106 1095 := ⟨14, by decide +kernel, by decide, rfl⟩
theorem dL_law_1095 : ml_d cL_law 1095 (.aload_n 1) 1 1096 := ⟨by decide +kernel, rfl⟩
theorem dL_law_1096 : ml_d cL_law 1096 (.iload 17) 2 1098 := ⟨by decide +kernel, rfl⟩
theorem dL_law_1098 : ml_d cL_law 1098 (.iconst 1) 1 1099 := ⟨by decide +kernel, rfl⟩
theorem dL_law_1099 : ml_d cL_law 1099 (.invokevirtual 121) 3 1102 := ⟨by decide +kernel, rfl⟩
theorem dL_law_1102 : ml_d cL_law 1102 (.iconst 1) 1 1103 := ⟨by decide +kernel, rfl⟩
theorem dL_law_1103 : ml_j cL_law 1103 (.if_icmp .eq) 1111 1106 := ⟨8, by decide +kernel, by decide, rfl⟩
theorem dL_law_1106 : ml_d cL_law 1106 (.bipush (-9)) 2 1108 := ⟨by decide +kernel, rfl⟩
theorem dL_law_1108 : ml_j cL_law 1108 .goto 1115 1111 := ⟨7, by decide +kernel, by decide, rfl⟩
theorem dL_law_1111 : ml_d cL_law 1111 (.aload_n 1) 1 1112 := ⟨by decide +kernel, rfl⟩
theorem dL_law_1112 : ml_d cL_law 1112 (.invokevirtual 100) 3 1115 := ⟨by decide +kernel, rfl⟩
theorem dL_law_1115 : ml_d cL_law 1115 (.istore 19) 2 1117 := ⟨by decide +kernel, rfl⟩
theorem dL_law_1117 : ml_d cL_law 1117 (.iload 17) 2 1119 := ⟨by decide +kernel, rfl⟩
theorem dL_law_1119 : ml_j cL_law 1119 (.ifCond .lt) 1147 1122 := ⟨28, by decide +kernel, by decide, rfl⟩
theorem dL_law_1122 : ml_d cL_law 1122 (.iload 18) 2 1124 := ⟨by decide +kernel, rfl⟩
theorem dL_law_1124 : ml_d cL_law 1124 (.iconst 1) 1 1125 := ⟨by decide +kernel, rfl⟩
theorem dL_law_1125 : ml_j cL_law 1125 (.if_icmp .ne) 1138 1128 := ⟨13, by decide +kernel, by decide, rfl⟩
theorem dL_law_1128 : ml_d cL_law 1128 (.iload 19) 2 1130 := ⟨by decide +kernel, rfl⟩
theorem dL_law_1130 : ml_d cL_law 1130 (.iload 14) 2 1132 := ⟨by decide +kernel, rfl⟩
theorem dL_law_1132 : ml_j cL_law 1132 (.if_icmp .lt) 1147 1135 := ⟨15, by decide +kernel, by decide, rfl⟩
theorem dL_law_1135 : ml_j cL_law 1135 .goto 1145 1138 := ⟨10, by decide +kernel, by decide, rfl⟩
theorem dL_law_1138 : ml_d cL_law 1138 (.iload 19) 2 1140 := ⟨by decide +kernel, rfl⟩
theorem dL_law_1140 : ml_d cL_law 1140 (.iload 15) 2 1142 := ⟨by decide +kernel, rfl⟩
theorem dL_law_1142 : ml_j cL_law 1142 (.if_icmp .ge) 1147 1145 := ⟨5, by decide +kernel, by decide, rfl⟩
theorem dL_law_1145 : ml_d cL_law 1145 (.iconst 0) 1 1146 := ⟨by decide +kernel, rfl⟩
theorem dL_law_1146 : ml_d cL_law 1146 (.ireturn) 1 1147 := ⟨by decide +kernel, rfl⟩
theorem dL_law_1147 : ml_d cL_law 1147 (.iinc 16 1) 3 1150 := ⟨by decide +kernel, rfl⟩
theorem dL_law_1150 : ml_j cL_law 1150 .goto 1039 1153 := ⟨(-111), by decide +kernel, by decide, rfl⟩
theorem dL_law_1153 : ml_d cL_law 1153 (.aload_n 1) 1 1154 := ⟨by decide +kernel, rfl⟩
theorem dL_law_1154 : ml_d cL_law 1154 (.aload_n 2) 1 1155 := ⟨by decide +kernel, rfl⟩
theorem dL_law_1155 : ml_d cL_law 1155 (.aload_n 0) 1 1156 := ⟨by decide +kernel, rfl⟩
theorem dL_law_1156 : ml_d cL_law 1156 (.invokestatic 124) 3 1159 := ⟨by decide +kernel, rfl⟩
theorem dL_law_1159 : ml_j cL_law 1159 (.ifCond .eq) 1175 1162 := ⟨16, by decide +kernel, by decide, rfl⟩
theorem dL_law_1162 : ml_d cL_law 1162 (.aload_n 1) 1 1163 := ⟨by decide +kernel, rfl⟩
theorem dL_law_1163 : ml_d cL_law 1163 (.iload 11) 2 1165 := ⟨by decide +kernel, rfl⟩
theorem dL_law_1165 : ml_d cL_law 1165 (.invokestatic 128) 3 1168 := ⟨by decide +kernel, rfl⟩
theorem dL_law_1168 : ml_j cL_law 1168 (.ifCond .eq) 1175 1171 := ⟨7, by decide +kernel, by decide, rfl⟩
theorem dL_law_1171 : ml_d cL_law 1171 (.iconst 1) 1 1172 := ⟨by decide +kernel, rfl⟩
theorem dL_law_1172 : ml_j cL_law 1172 .goto 1176 1175 := ⟨4, by decide +kernel, by decide, rfl⟩
theorem dL_law_1175 : ml_d cL_law 1175 (.iconst 0) 1 1176 := ⟨by decide +kernel, rfl⟩
theorem dL_law_1176 : ml_d cL_law 1176 (.ireturn) 1 1177 := ⟨by decide +kernel, rfl⟩
def fL_law_525 (sl : Nat) (sx : Nat → Int32) (k202 : Nat → Nat → Nat → Int32 → Int32 → Int32 → Int32 → ml_M → Option (Int32 × ml_M)) (l1 : Nat) (l2 : Nat) (l7 : Nat) (l8 : Int32) (l9 : Int32) (l11 : Int32) (l12 : Int32) (m : ml_M) : Option (Int32 × ml_M) :=
    k202 l1 l2 l7 l8 l9 l11 (l12 + (1 : Int32)) m
theorem vL_law_525 {E : ml_E} (hL : ml_eL E = 22) {rv : Int32} {rm : ml_M} (hr : ∀ (pc pc' : Nat) (lv : List (Nat × ml_X)), ml_d cL_law pc .ireturn 1 pc' → (rv = 0 ∨ rv = 1) → ml_V E RL cL_law 20 false rm pc lv [ml_i rv]) {k202 : Nat → Nat → Nat → Int32 → Int32 → Int32 → Int32 → ml_M → Option (Int32 × ml_M)} (hk202 : ∀ (l1 : Nat) (l2 : Nat) (l7 : Nat) (l8 : Int32) (l9 : Int32) (l11 : Int32) (l12 : Int32) (m : ml_M), k202 l1 l2 l7 l8 l9 l11 l12 m = some (rv, rm) → ml_V E RL cL_law 20 false m 202 [(0, ml_q (ml_sb (ml_eG E))), (1, ml_r l1), (2, ml_r l2), (7, ml_r l7), (8, ml_i l8), (9, ml_i l9), (11, ml_i l11), (12, ml_i l12)] []) : ∀ (l1 : Nat) (l2 : Nat) (l7 : Nat) (l8 : Int32) (l9 : Int32) (l11 : Int32) (l12 : Int32) (m : ml_M), fL_law_525 (ml_sl (ml_eG E)) (ml_sx (ml_eG E)) k202 l1 l2 l7 l8 l9 l11 l12 m = some (rv, rm) → ml_V E RL cL_law 20 false m 525 [(0, ml_q (ml_sb (ml_eG E))), (1, ml_r l1), (2, ml_r l2), (7, ml_r l7), (8, ml_i l8), (9, ml_i l9), (11, ml_i l11), (12, ml_i l12)] [] := by
  intro l1 l2 l7 l8 l9 l11 l12 m h
  unfold fL_law_525 at h
  exact ml_iinc (lv' := [(12, ml_i (l12 + (1 : Int32))), (0, ml_q (ml_sb (ml_eG E))), (1, ml_r l1), (2, ml_r l2), (7, ml_r l7), (8, ml_i l8), (9, ml_i l9), (11, ml_i l11)]) dL_law_525 7 rfl (congrArg (l12 + ·) kc_i1) (ml_hn hL rfl) rfl <| ml_goto dL_law_528 <| ml_V.sub [1, 2, 3, 4, 5, 6, 7, 0] rfl (hk202 _ _ _ _ _ _ _ _ h)
def fL_law_514 (sl : Nat) (sx : Nat → Int32) (k202 : Nat → Nat → Nat → Int32 → Int32 → Int32 → Int32 → ml_M → Option (Int32 × ml_M)) (l1 : Nat) (l2 : Nat) (l7 : Nat) (l8 : Int32) (l9 : Int32) (l11 : Int32) (l12 : Int32) (m : ml_M) : Option (Int32 × ml_M) :=
    if (ml_K m l1).1 = 10 then
    ml_b2 (fX10_wear l1 (1 : Int32) m) fun r1912 m1913 =>
    if r1912 = (4 : Int32) then
    fL_law_525 sl sx k202 l1 l2 l7 l8 l9 l11 l12 m1913
    else
    some ((0 : Int32), m1913)
    else none
theorem vL_law_514 {E : ml_E} (hL : ml_eL E = 22) {rv : Int32} {rm : ml_M} (hr : ∀ (pc pc' : Nat) (lv : List (Nat × ml_X)), ml_d cL_law pc .ireturn 1 pc' → (rv = 0 ∨ rv = 1) → ml_V E RL cL_law 20 false rm pc lv [ml_i rv]) {k202 : Nat → Nat → Nat → Int32 → Int32 → Int32 → Int32 → ml_M → Option (Int32 × ml_M)} (hk202 : ∀ (l1 : Nat) (l2 : Nat) (l7 : Nat) (l8 : Int32) (l9 : Int32) (l11 : Int32) (l12 : Int32) (m : ml_M), k202 l1 l2 l7 l8 l9 l11 l12 m = some (rv, rm) → ml_V E RL cL_law 20 false m 202 [(0, ml_q (ml_sb (ml_eG E))), (1, ml_r l1), (2, ml_r l2), (7, ml_r l7), (8, ml_i l8), (9, ml_i l9), (11, ml_i l11), (12, ml_i l12)] []) : ∀ (l1 : Nat) (l2 : Nat) (l7 : Nat) (l8 : Int32) (l9 : Int32) (l11 : Int32) (l12 : Int32) (m : ml_M), fL_law_514 (ml_sl (ml_eG E)) (ml_sx (ml_eG E)) k202 l1 l2 l7 l8 l9 l11 l12 m = some (rv, rm) → ml_V E RL cL_law 20 false m 514 [(0, ml_q (ml_sb (ml_eG E))), (1, ml_r l1), (2, ml_r l2), (7, ml_r l7), (8, ml_i l8), (9, ml_i l9), (11, ml_i l11), (12, ml_i l12)] [] := by
  intro l1 l2 l7 l8 l9 l11 l12 m h
  unfold fL_law_514 at h
  exact ml_aload_n dL_law_514 1 rfl <| ml_iconst dL_law_515 kc_i1 <| ml_ck_of h fun hc1911 h => ml_b2_of h fun r1912 m1913 hv1910 h => ml_callV dL_law_516 wm_511 wb_306 hc1911 (sX10_wear hv1910) rfl (Nat.le_of_ble_eq_true rfl) (Nat.le_of_ble_eq_true rfl) rfl <| ml_iconst dL_law_519 kc_i4 <| ml_icmp_eq dL_law_520 h (fun _ h => ml_V.sub [0, 1, 2, 3, 4, 5, 6, 7] rfl (vL_law_525 hL hr hk202 _ _ _ _ _ _ _ _ h)) (fun _ h => ml_iconst dL_law_523 kc_i0 <| ml_rI (mk := ml_i) hr dL_law_524 (fun e => Or.inl e.symm) h)
def fL_law_469 (sl : Nat) (sx : Nat → Int32) (k202 : Nat → Nat → Nat → Int32 → Int32 → Int32 → Int32 → ml_M → Option (Int32 × ml_M)) : Nat → Nat → Nat → Nat → Int32 → Int32 → Int32 → Int32 → Int32 → Int32 → ml_M → Option (Int32 × ml_M)
  | 0, _, _, _, _, _, _, _, _, _, _ => none
  | fu + 1, l1, l2, l7, l8, l9, l11, l12, l18, l19, m =>
    if (5 : Int32) ≤ l19 then
    fL_law_514 sl sx k202 l1 l2 l7 l8 l9 l11 l12 m
    else
    if (ml_K m l1).1 = 10 then
    ml_b2 (fX10_wear l1 l19 m) fun r1916 m1917 =>
    if r1916 < 0 then
    some ((0 : Int32), m1917)
    else
    if (ml_K m1917 l1).1 = 10 then
    ml_b2 (fX10_opens l1 l12 m1917) fun r1920 m1921 =>
    if (l18 &&& (r1920 ^^^ (-1 : Int32))) = 0 then
    if (ml_K m1921 l1).1 = 10 then
    ml_b2 (fX10_opens l1 l12 m1921) fun r1924 m1925 =>
    (fL_law_469 sl sx k202 fu) l1 l2 l7 l8 l9 l11 l12 r1924 (l19 + (1 : Int32)) m1925
    else none
    else
    some ((0 : Int32), m1921)
    else none
    else none
theorem vL_law_469 {E : ml_E} (hL : ml_eL E = 22) {rv : Int32} {rm : ml_M} (hr : ∀ (pc pc' : Nat) (lv : List (Nat × ml_X)), ml_d cL_law pc .ireturn 1 pc' → (rv = 0 ∨ rv = 1) → ml_V E RL cL_law 20 false rm pc lv [ml_i rv]) {k202 : Nat → Nat → Nat → Int32 → Int32 → Int32 → Int32 → ml_M → Option (Int32 × ml_M)} (hk202 : ∀ (l1 : Nat) (l2 : Nat) (l7 : Nat) (l8 : Int32) (l9 : Int32) (l11 : Int32) (l12 : Int32) (m : ml_M), k202 l1 l2 l7 l8 l9 l11 l12 m = some (rv, rm) → ml_V E RL cL_law 20 false m 202 [(0, ml_q (ml_sb (ml_eG E))), (1, ml_r l1), (2, ml_r l2), (7, ml_r l7), (8, ml_i l8), (9, ml_i l9), (11, ml_i l11), (12, ml_i l12)] []) : ∀ (fu : Nat) (l1 : Nat) (l2 : Nat) (l7 : Nat) (l8 : Int32) (l9 : Int32) (l11 : Int32) (l12 : Int32) (l18 : Int32) (l19 : Int32) (m : ml_M), fL_law_469 (ml_sl (ml_eG E)) (ml_sx (ml_eG E)) k202 fu l1 l2 l7 l8 l9 l11 l12 l18 l19 m = some (rv, rm) → ml_V E RL cL_law 20 false m 469 [(0, ml_q (ml_sb (ml_eG E))), (1, ml_r l1), (2, ml_r l2), (7, ml_r l7), (8, ml_i l8), (9, ml_i l9), (11, ml_i l11), (12, ml_i l12), (18, ml_i l18), (19, ml_i l19)] [] := by
  intro fu
  induction fu with
  | zero => intro l1 l2 l7 l8 l9 l11 l12 l18 l19 m h; exact ml_none h
  | succ fu ih =>
    intro l1 l2 l7 l8 l9 l11 l12 l18 l19 m h
    have hk469 := ih
    unfold fL_law_469 at h
    exact ml_iload dL_law_469 9 rfl <| ml_iconst dL_law_471 kc_i5 <| ml_icmp_ge dL_law_472 h (fun _ h => ml_V.sub [0, 1, 2, 3, 4, 5, 6, 7] rfl (vL_law_514 hL hr hk202 _ _ _ _ _ _ _ _ h)) (fun _ h => ml_aload_n dL_law_475 1 rfl <| ml_iload dL_law_476 9 rfl <| ml_ck_of h fun hc1915 h => ml_b2_of h fun r1916 m1917 hv1914 h => ml_callV dL_law_478 wm_511 wb_306 hc1915 (sX10_wear hv1914) rfl (Nat.le_of_ble_eq_true rfl) (Nat.le_of_ble_eq_true rfl) rfl <| ml_if_lt dL_law_481 h (fun _ h => ml_iconst dL_law_498 kc_i0 <| ml_rI (mk := ml_i) hr dL_law_499 (fun e => Or.inl e.symm) h) (fun _ h => ml_iload dL_law_484 8 rfl <| ml_aload_n dL_law_486 1 rfl <| ml_iload dL_law_487 7 rfl <| ml_ck_of h fun hc1919 h => ml_b2_of h fun r1920 m1921 hv1918 h => ml_callV dL_law_489 wm_515 wb_307 hc1919 (sX10_opens hv1918) rfl (Nat.le_of_ble_eq_true rfl) (Nat.le_of_ble_eq_true rfl) rfl <| ml_iconst dL_law_492 kc_im1 <| ml_ixor dL_law_493 <| ml_iand dL_law_494 <| ml_if_eq dL_law_495 h (fun _ h => ml_aload_n dL_law_500 1 rfl <| ml_iload dL_law_501 7 rfl <| ml_ck_of h fun hc1923 h => ml_b2_of h fun r1924 m1925 hv1922 h => ml_callV dL_law_503 wm_515 wb_307 hc1923 (sX10_opens hv1922) rfl (Nat.le_of_ble_eq_true rfl) (Nat.le_of_ble_eq_true rfl) rfl <| ml_istore (lv' := [(18, ml_i r1924), (0, ml_q (ml_sb (ml_eG E))), (1, ml_r l1), (2, ml_r l2), (7, ml_r l7), (8, ml_i l8), (9, ml_i l9), (11, ml_i l11), (12, ml_i l12), (19, ml_i l19)]) dL_law_506 (ml_hn hL rfl) rfl <| ml_iinc (lv' := [(19, ml_i (l19 + (1 : Int32))), (18, ml_i r1924), (0, ml_q (ml_sb (ml_eG E))), (1, ml_r l1), (2, ml_r l2), (7, ml_r l7), (8, ml_i l8), (9, ml_i l9), (11, ml_i l11), (12, ml_i l12)]) dL_law_508 9 rfl (congrArg (l19 + ·) kc_i1) (ml_hn hL rfl) rfl <| ml_goto dL_law_511 <| ml_V.sub [2, 3, 4, 5, 6, 7, 8, 9, 1, 0] rfl (hk469 _ _ _ _ _ _ _ _ _ _ h)) (fun _ h => ml_iconst dL_law_498 kc_i0 <| ml_rI (mk := ml_i) hr dL_law_499 (fun e => Or.inl e.symm) h)))
def fL_law_457 (sl : Nat) (sx : Nat → Int32) (k202 : Nat → Nat → Nat → Int32 → Int32 → Int32 → Int32 → ml_M → Option (Int32 × ml_M)) (l1 : Nat) (l2 : Nat) (l7 : Nat) (l8 : Int32) (l9 : Int32) (l11 : Int32) (l12 : Int32) (l13 : Int32) (m : ml_M) : Option (Int32 × ml_M) :=
    if l13 = (5 : Int32) then
    fL_law_469 sl sx k202 ml_fu l1 l2 l7 l8 l9 l11 l12 (0 : Int32) (0 : Int32) m
    else
    fL_law_525 sl sx k202 l1 l2 l7 l8 l9 l11 l12 m
theorem vL_law_457 {E : ml_E} (hL : ml_eL E = 22) {rv : Int32} {rm : ml_M} (hr : ∀ (pc pc' : Nat) (lv : List (Nat × ml_X)), ml_d cL_law pc .ireturn 1 pc' → (rv = 0 ∨ rv = 1) → ml_V E RL cL_law 20 false rm pc lv [ml_i rv]) {k202 : Nat → Nat → Nat → Int32 → Int32 → Int32 → Int32 → ml_M → Option (Int32 × ml_M)} (hk202 : ∀ (l1 : Nat) (l2 : Nat) (l7 : Nat) (l8 : Int32) (l9 : Int32) (l11 : Int32) (l12 : Int32) (m : ml_M), k202 l1 l2 l7 l8 l9 l11 l12 m = some (rv, rm) → ml_V E RL cL_law 20 false m 202 [(0, ml_q (ml_sb (ml_eG E))), (1, ml_r l1), (2, ml_r l2), (7, ml_r l7), (8, ml_i l8), (9, ml_i l9), (11, ml_i l11), (12, ml_i l12)] []) : ∀ (l1 : Nat) (l2 : Nat) (l7 : Nat) (l8 : Int32) (l9 : Int32) (l11 : Int32) (l12 : Int32) (l13 : Int32) (m : ml_M), fL_law_457 (ml_sl (ml_eG E)) (ml_sx (ml_eG E)) k202 l1 l2 l7 l8 l9 l11 l12 l13 m = some (rv, rm) → ml_V E RL cL_law 20 false m 457 [(0, ml_q (ml_sb (ml_eG E))), (1, ml_r l1), (2, ml_r l2), (7, ml_r l7), (8, ml_i l8), (9, ml_i l9), (11, ml_i l11), (12, ml_i l12), (13, ml_i l13)] [] := by
  intro l1 l2 l7 l8 l9 l11 l12 l13 m h
  unfold fL_law_457 at h
  exact ml_iload dL_law_457 8 rfl <| ml_iconst dL_law_459 kc_i5 <| ml_icmp_ne dL_law_460 h (fun _ h => ml_V.sub [0, 1, 2, 3, 4, 5, 6, 7] rfl (vL_law_525 hL hr hk202 _ _ _ _ _ _ _ _ h)) (fun _ h => ml_iconst dL_law_463 kc_i0 <| ml_istore (lv' := [(18, ml_i (0 : Int32)), (0, ml_q (ml_sb (ml_eG E))), (1, ml_r l1), (2, ml_r l2), (7, ml_r l7), (8, ml_i l8), (9, ml_i l9), (11, ml_i l11), (12, ml_i l12), (13, ml_i l13)]) dL_law_464 (ml_hn hL rfl) rfl <| ml_iconst dL_law_466 kc_i0 <| ml_istore (lv' := [(19, ml_i (0 : Int32)), (18, ml_i (0 : Int32)), (0, ml_q (ml_sb (ml_eG E))), (1, ml_r l1), (2, ml_r l2), (7, ml_r l7), (8, ml_i l8), (9, ml_i l9), (11, ml_i l11), (12, ml_i l12), (13, ml_i l13)]) dL_law_467 (ml_hn hL rfl) rfl <| ml_V.sub [2, 3, 4, 5, 6, 7, 8, 9, 1, 0] rfl (vL_law_469 hL hr hk202 ml_fu _ _ _ _ _ _ _ _ _ _ h))
def fL_law_420 (sl : Nat) (sx : Nat → Int32) (k202 : Nat → Nat → Nat → Int32 → Int32 → Int32 → Int32 → ml_M → Option (Int32 × ml_M)) : Nat → Nat → Nat → Nat → Int32 → Int32 → Int32 → Int32 → Int32 → Int32 → Int32 → Int32 → ml_M → Option (Int32 × ml_M)
  | 0, _, _, _, _, _, _, _, _, _, _, _, _ => none
  | fu + 1, l1, l2, l7, l8, l9, l11, l12, l13, l16, l17, l18, m =>
    if l8 ≤ l18 then
    fL_law_457 sl sx k202 l1 l2 l7 l8 l9 l11 l12 l13 m
    else
    if ((l16 >>> (l18 &&& 31)) &&& (1 : Int32)) = ((l17 >>> (((l8 - (1 : Int32)) - l18) &&& 31)) &&& (1 : Int32)) then
    (fL_law_420 sl sx k202 fu) l1 l2 l7 l8 l9 l11 l12 l13 l16 l17 (l18 + (1 : Int32)) m
    else
    some ((0 : Int32), m)
theorem vL_law_420 {E : ml_E} (hL : ml_eL E = 22) {rv : Int32} {rm : ml_M} (hr : ∀ (pc pc' : Nat) (lv : List (Nat × ml_X)), ml_d cL_law pc .ireturn 1 pc' → (rv = 0 ∨ rv = 1) → ml_V E RL cL_law 20 false rm pc lv [ml_i rv]) {k202 : Nat → Nat → Nat → Int32 → Int32 → Int32 → Int32 → ml_M → Option (Int32 × ml_M)} (hk202 : ∀ (l1 : Nat) (l2 : Nat) (l7 : Nat) (l8 : Int32) (l9 : Int32) (l11 : Int32) (l12 : Int32) (m : ml_M), k202 l1 l2 l7 l8 l9 l11 l12 m = some (rv, rm) → ml_V E RL cL_law 20 false m 202 [(0, ml_q (ml_sb (ml_eG E))), (1, ml_r l1), (2, ml_r l2), (7, ml_r l7), (8, ml_i l8), (9, ml_i l9), (11, ml_i l11), (12, ml_i l12)] []) : ∀ (fu : Nat) (l1 : Nat) (l2 : Nat) (l7 : Nat) (l8 : Int32) (l9 : Int32) (l11 : Int32) (l12 : Int32) (l13 : Int32) (l16 : Int32) (l17 : Int32) (l18 : Int32) (m : ml_M), fL_law_420 (ml_sl (ml_eG E)) (ml_sx (ml_eG E)) k202 fu l1 l2 l7 l8 l9 l11 l12 l13 l16 l17 l18 m = some (rv, rm) → ml_V E RL cL_law 20 false m 420 [(0, ml_q (ml_sb (ml_eG E))), (1, ml_r l1), (2, ml_r l2), (7, ml_r l7), (8, ml_i l8), (9, ml_i l9), (11, ml_i l11), (12, ml_i l12), (13, ml_i l13), (16, ml_i l16), (17, ml_i l17), (18, ml_i l18)] [] := by
  intro fu
  induction fu with
  | zero => intro l1 l2 l7 l8 l9 l11 l12 l13 l16 l17 l18 m h; exact ml_none h
  | succ fu ih =>
    intro l1 l2 l7 l8 l9 l11 l12 l13 l16 l17 l18 m h
    have hk420 := ih
    unfold fL_law_420 at h
    exact ml_iload dL_law_420 11 rfl <| ml_iload dL_law_422 4 rfl <| ml_icmp_ge dL_law_424 h (fun _ h => ml_V.sub [0, 1, 2, 3, 4, 5, 6, 7, 8] rfl (vL_law_457 hL hr hk202 _ _ _ _ _ _ _ _ _ h)) (fun _ h => ml_iload dL_law_427 9 rfl <| ml_iload dL_law_429 11 rfl <| ml_ishr dL_law_431 <| ml_iconst dL_law_432 kc_i1 <| ml_iand dL_law_433 <| ml_iload dL_law_434 10 rfl <| ml_iload dL_law_436 4 rfl <| ml_iconst dL_law_438 kc_i1 <| ml_isub dL_law_439 <| ml_iload dL_law_440 11 rfl <| ml_isub dL_law_442 <| ml_ishr dL_law_443 <| ml_iconst dL_law_444 kc_i1 <| ml_iand dL_law_445 <| ml_icmp_eq dL_law_446 h (fun _ h => ml_iinc (lv' := [(18, ml_i (l18 + (1 : Int32))), (0, ml_q (ml_sb (ml_eG E))), (1, ml_r l1), (2, ml_r l2), (7, ml_r l7), (8, ml_i l8), (9, ml_i l9), (11, ml_i l11), (12, ml_i l12), (13, ml_i l13), (16, ml_i l16), (17, ml_i l17)]) dL_law_451 11 rfl (congrArg (l18 + ·) kc_i1) (ml_hn hL rfl) rfl <| ml_goto dL_law_454 <| ml_V.sub [1, 2, 3, 4, 5, 6, 7, 8, 9, 10, 11, 0] rfl (hk420 _ _ _ _ _ _ _ _ _ _ _ _ h)) (fun _ h => ml_iconst dL_law_449 kc_i0 <| ml_rI (mk := ml_i) hr dL_law_450 (fun e => Or.inl e.symm) h))
def fL_law_392 (sl : Nat) (sx : Nat → Int32) (k202 : Nat → Nat → Nat → Int32 → Int32 → Int32 → Int32 → ml_M → Option (Int32 × ml_M)) (l1 : Nat) (l2 : Nat) (l7 : Nat) (l8 : Int32) (l9 : Int32) (l11 : Int32) (l12 : Int32) (l13 : Int32) (t0 : Int32) (t1 : Int32) (t2 : Int32) (t3 : Nat) (m : ml_M) : Option (Int32 × ml_M) :=
    if (ml_K m t3).1 = 10 then
    ml_b2 (fX10_lies t3 t2 t1 t0 m) fun r1928 m1929 =>
    if r1928 = (1 : Int32) then
    if (ml_K m1929 l1).1 = 10 then
    ml_b1 (fX10_may l1 l12 m1929) fun r1932 =>
    if (ml_K m1929 l2).1 = 10 then
    ml_b1 (fX10_may l2 l12 m1929) fun r1935 =>
    fL_law_420 sl sx k202 ml_fu l1 l2 l7 l8 l9 l11 l12 l13 r1932 r1935 (0 : Int32) m1929
    else none
    else none
    else
    some ((0 : Int32), m1929)
    else none
theorem vL_law_392 {E : ml_E} (hL : ml_eL E = 22) {rv : Int32} {rm : ml_M} (hr : ∀ (pc pc' : Nat) (lv : List (Nat × ml_X)), ml_d cL_law pc .ireturn 1 pc' → (rv = 0 ∨ rv = 1) → ml_V E RL cL_law 20 false rm pc lv [ml_i rv]) {k202 : Nat → Nat → Nat → Int32 → Int32 → Int32 → Int32 → ml_M → Option (Int32 × ml_M)} (hk202 : ∀ (l1 : Nat) (l2 : Nat) (l7 : Nat) (l8 : Int32) (l9 : Int32) (l11 : Int32) (l12 : Int32) (m : ml_M), k202 l1 l2 l7 l8 l9 l11 l12 m = some (rv, rm) → ml_V E RL cL_law 20 false m 202 [(0, ml_q (ml_sb (ml_eG E))), (1, ml_r l1), (2, ml_r l2), (7, ml_r l7), (8, ml_i l8), (9, ml_i l9), (11, ml_i l11), (12, ml_i l12)] []) : ∀ (l1 : Nat) (l2 : Nat) (l7 : Nat) (l8 : Int32) (l9 : Int32) (l11 : Int32) (l12 : Int32) (l13 : Int32) (t0 : Int32) (t1 : Int32) (t2 : Int32) (t3 : Nat) (m : ml_M), fL_law_392 (ml_sl (ml_eG E)) (ml_sx (ml_eG E)) k202 l1 l2 l7 l8 l9 l11 l12 l13 t0 t1 t2 t3 m = some (rv, rm) → ml_V E RL cL_law 20 false m 392 [(0, ml_q (ml_sb (ml_eG E))), (1, ml_r l1), (2, ml_r l2), (7, ml_r l7), (8, ml_i l8), (9, ml_i l9), (11, ml_i l11), (12, ml_i l12), (13, ml_i l13)] [ml_i t0, ml_i t1, ml_i t2, ml_r t3] := by
  intro l1 l2 l7 l8 l9 l11 l12 l13 t0 t1 t2 t3 m h
  unfold fL_law_392 at h
  exact ml_ck_of h fun hc1927 h => ml_b2_of h fun r1928 m1929 hv1926 h => ml_callV dL_law_392 wm_290 wb_174 hc1927 (sX10_lies hv1926) rfl (Nat.le_of_ble_eq_true rfl) (Nat.le_of_ble_eq_true rfl) rfl <| ml_iconst dL_law_395 kc_i1 <| ml_icmp_eq dL_law_396 h (fun _ h => ml_aload_n dL_law_401 1 rfl <| ml_iload dL_law_402 7 rfl <| ml_ck_of h fun hc1931 h => ml_b1_of h fun r1932 hv1930 h => ml_callV dL_law_404 wm_171 wb_89 hc1931 (sX10_may hv1930) rfl (Nat.le_of_ble_eq_true rfl) (Nat.le_of_ble_eq_true rfl) rfl <| ml_istore (lv' := [(16, ml_i r1932), (0, ml_q (ml_sb (ml_eG E))), (1, ml_r l1), (2, ml_r l2), (7, ml_r l7), (8, ml_i l8), (9, ml_i l9), (11, ml_i l11), (12, ml_i l12), (13, ml_i l13)]) dL_law_407 (ml_hn hL rfl) rfl <| ml_aload_n dL_law_409 3 rfl <| ml_iload dL_law_410 8 rfl <| ml_ck_of h fun hc1934 h => ml_b1_of h fun r1935 hv1933 h => ml_callV dL_law_412 wm_171 wb_89 hc1934 (sX10_may hv1933) rfl (Nat.le_of_ble_eq_true rfl) (Nat.le_of_ble_eq_true rfl) rfl <| ml_istore (lv' := [(17, ml_i r1935), (16, ml_i r1932), (0, ml_q (ml_sb (ml_eG E))), (1, ml_r l1), (2, ml_r l2), (7, ml_r l7), (8, ml_i l8), (9, ml_i l9), (11, ml_i l11), (12, ml_i l12), (13, ml_i l13)]) dL_law_415 (ml_hn hL rfl) rfl <| ml_iconst dL_law_417 kc_i0 <| ml_istore (lv' := [(18, ml_i (0 : Int32)), (17, ml_i r1935), (16, ml_i r1932), (0, ml_q (ml_sb (ml_eG E))), (1, ml_r l1), (2, ml_r l2), (7, ml_r l7), (8, ml_i l8), (9, ml_i l9), (11, ml_i l11), (12, ml_i l12), (13, ml_i l13)]) dL_law_418 (ml_hn hL rfl) rfl <| ml_V.sub [3, 4, 5, 6, 7, 8, 9, 10, 11, 2, 1, 0] rfl (vL_law_420 hL hr hk202 ml_fu _ _ _ _ _ _ _ _ _ _ _ _ h)) (fun _ h => ml_iconst dL_law_399 kc_i0 <| ml_rI (mk := ml_i) hr dL_law_400 (fun e => Or.inl e.symm) h)
def fL_law_351 (sl : Nat) (sx : Nat → Int32) (k202 : Nat → Nat → Nat → Int32 → Int32 → Int32 → Int32 → ml_M → Option (Int32 × ml_M)) (l1 : Nat) (l2 : Nat) (l7 : Nat) (l8 : Int32) (l9 : Int32) (l11 : Int32) (l12 : Int32) (l13 : Int32) (t0 : Int32) (t1 : Int32) (t2 : Int32) (t3 : Int32) (t4 : Int32) (t5 : Nat) (m : ml_M) : Option (Int32 × ml_M) :=
    if (ml_K m t5).1 = 10 then
    ml_b2 (fX10_thing t5 t4 t3 t2 t1 t0 m) fun r1938 m1939 =>
    if r1938 = l12 then
    if ml_in m1939 l7 20 (((8 : Int32) * l12) + (5 : Int32)) then
    if ml_in m1939 l7 20 (((8 : Int32) * l12) + (6 : Int32)) then
    if (ml_I m1939 l7 (((8 : Int32) * l12) + (6 : Int32)).toNatClampNeg) = (1 : Int32) then
    fL_law_392 sl sx k202 l1 l2 l7 l8 l9 l11 l12 l13 (1 : Int32) (ml_I m1939 l7 (((8 : Int32) * l12) + (5 : Int32)).toNatClampNeg) l12 l2 m1939
    else
    fL_law_392 sl sx k202 l1 l2 l7 l8 l9 l11 l12 l13 (0 : Int32) (ml_I m1939 l7 (((8 : Int32) * l12) + (5 : Int32)).toNatClampNeg) l12 l2 m1939
    else none
    else none
    else
    some ((0 : Int32), m1939)
    else none
theorem vL_law_351 {E : ml_E} (hL : ml_eL E = 22) {rv : Int32} {rm : ml_M} (hr : ∀ (pc pc' : Nat) (lv : List (Nat × ml_X)), ml_d cL_law pc .ireturn 1 pc' → (rv = 0 ∨ rv = 1) → ml_V E RL cL_law 20 false rm pc lv [ml_i rv]) {k202 : Nat → Nat → Nat → Int32 → Int32 → Int32 → Int32 → ml_M → Option (Int32 × ml_M)} (hk202 : ∀ (l1 : Nat) (l2 : Nat) (l7 : Nat) (l8 : Int32) (l9 : Int32) (l11 : Int32) (l12 : Int32) (m : ml_M), k202 l1 l2 l7 l8 l9 l11 l12 m = some (rv, rm) → ml_V E RL cL_law 20 false m 202 [(0, ml_q (ml_sb (ml_eG E))), (1, ml_r l1), (2, ml_r l2), (7, ml_r l7), (8, ml_i l8), (9, ml_i l9), (11, ml_i l11), (12, ml_i l12)] []) : ∀ (l1 : Nat) (l2 : Nat) (l7 : Nat) (l8 : Int32) (l9 : Int32) (l11 : Int32) (l12 : Int32) (l13 : Int32) (t0 : Int32) (t1 : Int32) (t2 : Int32) (t3 : Int32) (t4 : Int32) (t5 : Nat) (m : ml_M), fL_law_351 (ml_sl (ml_eG E)) (ml_sx (ml_eG E)) k202 l1 l2 l7 l8 l9 l11 l12 l13 t0 t1 t2 t3 t4 t5 m = some (rv, rm) → ml_V E RL cL_law 20 false m 351 [(0, ml_q (ml_sb (ml_eG E))), (1, ml_r l1), (2, ml_r l2), (7, ml_r l7), (8, ml_i l8), (9, ml_i l9), (11, ml_i l11), (12, ml_i l12), (13, ml_i l13)] [ml_i t0, ml_i t1, ml_i t2, ml_i t3, ml_i t4, ml_r t5] := by
  intro l1 l2 l7 l8 l9 l11 l12 l13 t0 t1 t2 t3 t4 t5 m h
  unfold fL_law_351 at h
  exact ml_ck_of h fun hc1937 h => ml_b2_of h fun r1938 m1939 hv1936 h => ml_callV dL_law_351 wm_294 wb_175 hc1937 (sX10_thing hv1936) rfl (Nat.le_of_ble_eq_true rfl) (Nat.le_of_ble_eq_true rfl) rfl <| ml_iload dL_law_354 7 rfl <| ml_icmp_ne dL_law_356 h (fun _ h => ml_iconst dL_law_399 kc_i0 <| ml_rI (mk := ml_i) hr dL_law_400 (fun e => Or.inl e.symm) h) (fun _ h => ml_aload_n dL_law_359 2 rfl <| ml_iload dL_law_360 7 rfl <| ml_aload dL_law_362 3 rfl <| ml_bipush dL_law_364 kc_b8 <| ml_iload dL_law_366 7 rfl <| ml_imul dL_law_368 <| ml_iconst dL_law_369 kc_i5 <| ml_iadd dL_law_370 <| ml_ck_of h fun hi1940 h => ml_iald dL_law_371 hi1940 <| ml_aload dL_law_372 3 rfl <| ml_bipush dL_law_374 kc_b8 <| ml_iload dL_law_376 7 rfl <| ml_imul dL_law_378 <| ml_bipush dL_law_379 kc_b6 <| ml_iadd dL_law_381 <| ml_ck_of h fun hi1941 h => ml_iald dL_law_382 hi1941 <| ml_iconst dL_law_383 kc_i1 <| ml_icmp_ne dL_law_384 h (fun _ h => ml_iconst dL_law_391 kc_i0 <| ml_V.sub [0, 1, 2, 3, 4, 5, 6, 7, 8] rfl (vL_law_392 hL hr hk202 _ _ _ _ _ _ _ _ _ _ _ _ _ h)) (fun _ h => ml_iconst dL_law_387 kc_i1 <| ml_goto dL_law_388 <| ml_V.sub [0, 1, 2, 3, 4, 5, 6, 7, 8] rfl (vL_law_392 hL hr hk202 _ _ _ _ _ _ _ _ _ _ _ _ _ h)))
def fL_law_313 (sl : Nat) (sx : Nat → Int32) (k202 : Nat → Nat → Nat → Int32 → Int32 → Int32 → Int32 → ml_M → Option (Int32 × ml_M)) (l1 : Nat) (l2 : Nat) (l7 : Nat) (l8 : Int32) (l9 : Int32) (l11 : Int32) (l12 : Int32) (l13 : Int32) (l14 : Int32) (l15 : Int32) (t0 : Int32) (t1 : Int32) (t2 : Int32) (t3 : Int32) (t4 : Nat) (m : ml_M) : Option (Int32 × ml_M) :=
    if l13 = (3 : Int32) then
    if ml_in m l7 20 (((8 : Int32) * l12) + (4 : Int32)) then
    fL_law_351 sl sx k202 l1 l2 l7 l8 l9 l11 l12 l13 ((l8 - (1 : Int32)) - (ml_I m l7 (((8 : Int32) * l12) + (4 : Int32)).toNatClampNeg)) t0 t1 t2 t3 t4 m
    else none
    else
    if l15 = 0 then
    fL_law_351 sl sx k202 l1 l2 l7 l8 l9 l11 l12 l13 (0 : Int32) t0 t1 t2 t3 t4 m
    else
    fL_law_351 sl sx k202 l1 l2 l7 l8 l9 l11 l12 l13 (l14 - l14 / (10 : Int32) * (10 : Int32)) t0 t1 t2 t3 t4 m
theorem vL_law_313 {E : ml_E} (hL : ml_eL E = 22) {rv : Int32} {rm : ml_M} (hr : ∀ (pc pc' : Nat) (lv : List (Nat × ml_X)), ml_d cL_law pc .ireturn 1 pc' → (rv = 0 ∨ rv = 1) → ml_V E RL cL_law 20 false rm pc lv [ml_i rv]) {k202 : Nat → Nat → Nat → Int32 → Int32 → Int32 → Int32 → ml_M → Option (Int32 × ml_M)} (hk202 : ∀ (l1 : Nat) (l2 : Nat) (l7 : Nat) (l8 : Int32) (l9 : Int32) (l11 : Int32) (l12 : Int32) (m : ml_M), k202 l1 l2 l7 l8 l9 l11 l12 m = some (rv, rm) → ml_V E RL cL_law 20 false m 202 [(0, ml_q (ml_sb (ml_eG E))), (1, ml_r l1), (2, ml_r l2), (7, ml_r l7), (8, ml_i l8), (9, ml_i l9), (11, ml_i l11), (12, ml_i l12)] []) : ∀ (l1 : Nat) (l2 : Nat) (l7 : Nat) (l8 : Int32) (l9 : Int32) (l11 : Int32) (l12 : Int32) (l13 : Int32) (l14 : Int32) (l15 : Int32) (t0 : Int32) (t1 : Int32) (t2 : Int32) (t3 : Int32) (t4 : Nat) (m : ml_M), fL_law_313 (ml_sl (ml_eG E)) (ml_sx (ml_eG E)) k202 l1 l2 l7 l8 l9 l11 l12 l13 l14 l15 t0 t1 t2 t3 t4 m = some (rv, rm) → ml_V E RL cL_law 20 false m 313 [(0, ml_q (ml_sb (ml_eG E))), (1, ml_r l1), (2, ml_r l2), (7, ml_r l7), (8, ml_i l8), (9, ml_i l9), (11, ml_i l11), (12, ml_i l12), (13, ml_i l13), (14, ml_i l14), (15, ml_i l15)] [ml_i t0, ml_i t1, ml_i t2, ml_i t3, ml_r t4] := by
  intro l1 l2 l7 l8 l9 l11 l12 l13 l14 l15 t0 t1 t2 t3 t4 m h
  unfold fL_law_313 at h
  exact ml_iload dL_law_313 8 rfl <| ml_iconst dL_law_315 kc_i3 <| ml_icmp_ne dL_law_316 h (fun _ h => ml_iload dL_law_337 10 rfl <| ml_if_eq dL_law_339 h (fun _ h => ml_iconst dL_law_350 kc_i0 <| ml_V.sub [0, 1, 2, 3, 4, 5, 6, 7, 8] rfl (vL_law_351 hL hr hk202 _ _ _ _ _ _ _ _ _ _ _ _ _ _ _ h)) (fun _ h => ml_iload dL_law_342 9 rfl <| ml_bipush dL_law_344 kc_b10 <| ml_irem dL_law_346 (by decide) <| ml_goto dL_law_347 <| ml_V.sub [0, 1, 2, 3, 4, 5, 6, 7, 8] rfl (vL_law_351 hL hr hk202 _ _ _ _ _ _ _ _ _ _ _ _ _ _ _ h))) (fun _ h => ml_iload dL_law_319 4 rfl <| ml_iconst dL_law_321 kc_i1 <| ml_isub dL_law_322 <| ml_aload dL_law_323 3 rfl <| ml_bipush dL_law_325 kc_b8 <| ml_iload dL_law_327 7 rfl <| ml_imul dL_law_329 <| ml_iconst dL_law_330 kc_i4 <| ml_iadd dL_law_331 <| ml_ck_of h fun hi1942 h => ml_iald dL_law_332 hi1942 <| ml_isub dL_law_333 <| ml_goto dL_law_334 <| ml_V.sub [0, 1, 2, 3, 4, 5, 6, 7, 8] rfl (vL_law_351 hL hr hk202 _ _ _ _ _ _ _ _ _ _ _ _ _ _ _ h))
def fL_law_273 (sl : Nat) (sx : Nat → Int32) (k202 : Nat → Nat → Nat → Int32 → Int32 → Int32 → Int32 → ml_M → Option (Int32 × ml_M)) (l1 : Nat) (l2 : Nat) (l7 : Nat) (l8 : Int32) (l9 : Int32) (l11 : Int32) (l12 : Int32) (l13 : Int32) (l14 : Int32) (t0 : Int32) (m : ml_M) : Option (Int32 × ml_M) :=
    if ml_in m l7 20 (((8 : Int32) * l12) + (1 : Int32)) then
    if ml_in m l7 20 (((8 : Int32) * l12) + (2 : Int32)) then
    if t0 = 0 then
    fL_law_313 sl sx k202 l1 l2 l7 l8 l9 l11 l12 l13 l14 t0 l14 (ml_I m l7 (((8 : Int32) * l12) + (2 : Int32)).toNatClampNeg) (ml_I m l7 (((8 : Int32) * l12) + (1 : Int32)).toNatClampNeg) l13 l2 m
    else
    fL_law_313 sl sx k202 l1 l2 l7 l8 l9 l11 l12 l13 l14 t0 (l14 / (10 : Int32)) (ml_I m l7 (((8 : Int32) * l12) + (2 : Int32)).toNatClampNeg) (ml_I m l7 (((8 : Int32) * l12) + (1 : Int32)).toNatClampNeg) l13 l2 m
    else none
    else none
theorem vL_law_273 {E : ml_E} (hL : ml_eL E = 22) {rv : Int32} {rm : ml_M} (hr : ∀ (pc pc' : Nat) (lv : List (Nat × ml_X)), ml_d cL_law pc .ireturn 1 pc' → (rv = 0 ∨ rv = 1) → ml_V E RL cL_law 20 false rm pc lv [ml_i rv]) {k202 : Nat → Nat → Nat → Int32 → Int32 → Int32 → Int32 → ml_M → Option (Int32 × ml_M)} (hk202 : ∀ (l1 : Nat) (l2 : Nat) (l7 : Nat) (l8 : Int32) (l9 : Int32) (l11 : Int32) (l12 : Int32) (m : ml_M), k202 l1 l2 l7 l8 l9 l11 l12 m = some (rv, rm) → ml_V E RL cL_law 20 false m 202 [(0, ml_q (ml_sb (ml_eG E))), (1, ml_r l1), (2, ml_r l2), (7, ml_r l7), (8, ml_i l8), (9, ml_i l9), (11, ml_i l11), (12, ml_i l12)] []) : ∀ (l1 : Nat) (l2 : Nat) (l7 : Nat) (l8 : Int32) (l9 : Int32) (l11 : Int32) (l12 : Int32) (l13 : Int32) (l14 : Int32) (t0 : Int32) (m : ml_M), fL_law_273 (ml_sl (ml_eG E)) (ml_sx (ml_eG E)) k202 l1 l2 l7 l8 l9 l11 l12 l13 l14 t0 m = some (rv, rm) → ml_V E RL cL_law 20 false m 273 [(0, ml_q (ml_sb (ml_eG E))), (1, ml_r l1), (2, ml_r l2), (7, ml_r l7), (8, ml_i l8), (9, ml_i l9), (11, ml_i l11), (12, ml_i l12), (13, ml_i l13), (14, ml_i l14)] [ml_i t0] := by
  intro l1 l2 l7 l8 l9 l11 l12 l13 l14 t0 m h
  unfold fL_law_273 at h
  exact ml_istore (lv' := [(15, ml_i t0), (0, ml_q (ml_sb (ml_eG E))), (1, ml_r l1), (2, ml_r l2), (7, ml_r l7), (8, ml_i l8), (9, ml_i l9), (11, ml_i l11), (12, ml_i l12), (13, ml_i l13), (14, ml_i l14)]) dL_law_273 (ml_hn hL rfl) rfl <| ml_aload_n dL_law_275 3 rfl <| ml_iload dL_law_276 9 rfl <| ml_aload dL_law_278 4 rfl <| ml_bipush dL_law_280 kc_b8 <| ml_iload dL_law_282 8 rfl <| ml_imul dL_law_284 <| ml_iconst dL_law_285 kc_i1 <| ml_iadd dL_law_286 <| ml_ck_of h fun hi1943 h => ml_iald dL_law_287 hi1943 <| ml_aload dL_law_288 4 rfl <| ml_bipush dL_law_290 kc_b8 <| ml_iload dL_law_292 8 rfl <| ml_imul dL_law_294 <| ml_iconst dL_law_295 kc_i2 <| ml_iadd dL_law_296 <| ml_ck_of h fun hi1944 h => ml_iald dL_law_297 hi1944 <| ml_iload dL_law_298 0 rfl <| ml_if_eq dL_law_300 h (fun _ h => ml_iload dL_law_311 10 rfl <| ml_V.sub [1, 2, 3, 4, 5, 6, 7, 8, 9, 10, 0] rfl (vL_law_313 hL hr hk202 _ _ _ _ _ _ _ _ _ _ _ _ _ _ _ _ h)) (fun _ h => ml_iload dL_law_303 10 rfl <| ml_bipush dL_law_305 kc_b10 <| ml_idiv dL_law_307 (by decide) <| ml_goto dL_law_308 <| ml_V.sub [1, 2, 3, 4, 5, 6, 7, 8, 9, 10, 0] rfl (vL_law_313 hL hr hk202 _ _ _ _ _ _ _ _ _ _ _ _ _ _ _ _ h))
def fL_law_268 (sl : Nat) (sx : Nat → Int32) (k202 : Nat → Nat → Nat → Int32 → Int32 → Int32 → Int32 → ml_M → Option (Int32 × ml_M)) (l1 : Nat) (l2 : Nat) (l7 : Nat) (l8 : Int32) (l9 : Int32) (l11 : Int32) (l12 : Int32) (l13 : Int32) (l14 : Int32) (m : ml_M) : Option (Int32 × ml_M) :=
    fL_law_273 sl sx k202 l1 l2 l7 l8 l9 l11 l12 l13 l14 (1 : Int32) m
theorem vL_law_268 {E : ml_E} (hL : ml_eL E = 22) {rv : Int32} {rm : ml_M} (hr : ∀ (pc pc' : Nat) (lv : List (Nat × ml_X)), ml_d cL_law pc .ireturn 1 pc' → (rv = 0 ∨ rv = 1) → ml_V E RL cL_law 20 false rm pc lv [ml_i rv]) {k202 : Nat → Nat → Nat → Int32 → Int32 → Int32 → Int32 → ml_M → Option (Int32 × ml_M)} (hk202 : ∀ (l1 : Nat) (l2 : Nat) (l7 : Nat) (l8 : Int32) (l9 : Int32) (l11 : Int32) (l12 : Int32) (m : ml_M), k202 l1 l2 l7 l8 l9 l11 l12 m = some (rv, rm) → ml_V E RL cL_law 20 false m 202 [(0, ml_q (ml_sb (ml_eG E))), (1, ml_r l1), (2, ml_r l2), (7, ml_r l7), (8, ml_i l8), (9, ml_i l9), (11, ml_i l11), (12, ml_i l12)] []) : ∀ (l1 : Nat) (l2 : Nat) (l7 : Nat) (l8 : Int32) (l9 : Int32) (l11 : Int32) (l12 : Int32) (l13 : Int32) (l14 : Int32) (m : ml_M), fL_law_268 (ml_sl (ml_eG E)) (ml_sx (ml_eG E)) k202 l1 l2 l7 l8 l9 l11 l12 l13 l14 m = some (rv, rm) → ml_V E RL cL_law 20 false m 268 [(0, ml_q (ml_sb (ml_eG E))), (1, ml_r l1), (2, ml_r l2), (7, ml_r l7), (8, ml_i l8), (9, ml_i l9), (11, ml_i l11), (12, ml_i l12), (13, ml_i l13), (14, ml_i l14)] [] := by
  intro l1 l2 l7 l8 l9 l11 l12 l13 l14 m h
  unfold fL_law_268 at h
  exact ml_iconst dL_law_268 kc_i1 <| ml_goto dL_law_269 <| ml_V.sub [0, 1, 2, 3, 4, 5, 6, 7, 8, 9] rfl (vL_law_273 hL hr hk202 _ _ _ _ _ _ _ _ _ _ _ h)
def fL_law_851 (sl : Nat) (sx : Nat → Int32) (k636 : Nat → Nat → Int32 → Int32 → Int32 → Int32 → Int32 → ml_M → Option (Int32 × ml_M)) (l1 : Nat) (l2 : Nat) (l9 : Int32) (l11 : Int32) (l12 : Int32) (l14 : Int32) (l15 : Int32) (m : ml_M) : Option (Int32 × ml_M) :=
    k636 l1 l2 l9 l11 l12 l15 (l14 + (1 : Int32)) m
theorem vL_law_851 {E : ml_E} (hL : ml_eL E = 22) {rv : Int32} {rm : ml_M} (hr : ∀ (pc pc' : Nat) (lv : List (Nat × ml_X)), ml_d cL_law pc .ireturn 1 pc' → (rv = 0 ∨ rv = 1) → ml_V E RL cL_law 20 false rm pc lv [ml_i rv]) {k636 : Nat → Nat → Int32 → Int32 → Int32 → Int32 → Int32 → ml_M → Option (Int32 × ml_M)} (hk636 : ∀ (l1 : Nat) (l2 : Nat) (l9 : Int32) (l11 : Int32) (l12 : Int32) (l13 : Int32) (l14 : Int32) (m : ml_M), k636 l1 l2 l9 l11 l12 l13 l14 m = some (rv, rm) → ml_V E RL cL_law 20 false m 636 [(0, ml_q (ml_sb (ml_eG E))), (1, ml_r l1), (2, ml_r l2), (9, ml_i l9), (11, ml_i l11), (12, ml_i l12), (13, ml_i l13), (14, ml_i l14)] []) : ∀ (l1 : Nat) (l2 : Nat) (l9 : Int32) (l11 : Int32) (l12 : Int32) (l14 : Int32) (l15 : Int32) (m : ml_M), fL_law_851 (ml_sl (ml_eG E)) (ml_sx (ml_eG E)) k636 l1 l2 l9 l11 l12 l14 l15 m = some (rv, rm) → ml_V E RL cL_law 20 false m 851 [(0, ml_q (ml_sb (ml_eG E))), (1, ml_r l1), (2, ml_r l2), (9, ml_i l9), (11, ml_i l11), (12, ml_i l12), (14, ml_i l14), (15, ml_i l15)] [] := by
  intro l1 l2 l9 l11 l12 l14 l15 m h
  unfold fL_law_851 at h
  exact ml_iload dL_law_851 7 rfl <| ml_istore (lv' := [(13, ml_i l15), (0, ml_q (ml_sb (ml_eG E))), (1, ml_r l1), (2, ml_r l2), (9, ml_i l9), (11, ml_i l11), (12, ml_i l12), (14, ml_i l14), (15, ml_i l15)]) dL_law_853 (ml_hn hL rfl) rfl <| ml_iinc (lv' := [(14, ml_i (l14 + (1 : Int32))), (13, ml_i l15), (0, ml_q (ml_sb (ml_eG E))), (1, ml_r l1), (2, ml_r l2), (9, ml_i l9), (11, ml_i l11), (12, ml_i l12), (15, ml_i l15)]) dL_law_855 7 rfl (congrArg (l14 + ·) kc_i1) (ml_hn hL rfl) rfl <| ml_goto dL_law_858 <| ml_V.sub [2, 3, 4, 5, 6, 7, 1, 0] rfl (hk636 _ _ _ _ _ _ _ _ h)
def fL_law_839 (sl : Nat) (sx : Nat → Int32) (k636 : Nat → Nat → Int32 → Int32 → Int32 → Int32 → Int32 → ml_M → Option (Int32 × ml_M)) (l1 : Nat) (l2 : Nat) (l9 : Int32) (l11 : Int32) (l12 : Int32) (l14 : Int32) (l15 : Int32) (l20 : Int32) (m : ml_M) : Option (Int32 × ml_M) :=
    if l15 = 0 then
    if l20 = 0 then
    fL_law_851 sl sx k636 l1 l2 l9 l11 l12 l14 l15 m
    else
    some ((0 : Int32), m)
    else
    fL_law_851 sl sx k636 l1 l2 l9 l11 l12 l14 l15 m
theorem vL_law_839 {E : ml_E} (hL : ml_eL E = 22) {rv : Int32} {rm : ml_M} (hr : ∀ (pc pc' : Nat) (lv : List (Nat × ml_X)), ml_d cL_law pc .ireturn 1 pc' → (rv = 0 ∨ rv = 1) → ml_V E RL cL_law 20 false rm pc lv [ml_i rv]) {k636 : Nat → Nat → Int32 → Int32 → Int32 → Int32 → Int32 → ml_M → Option (Int32 × ml_M)} (hk636 : ∀ (l1 : Nat) (l2 : Nat) (l9 : Int32) (l11 : Int32) (l12 : Int32) (l13 : Int32) (l14 : Int32) (m : ml_M), k636 l1 l2 l9 l11 l12 l13 l14 m = some (rv, rm) → ml_V E RL cL_law 20 false m 636 [(0, ml_q (ml_sb (ml_eG E))), (1, ml_r l1), (2, ml_r l2), (9, ml_i l9), (11, ml_i l11), (12, ml_i l12), (13, ml_i l13), (14, ml_i l14)] []) : ∀ (l1 : Nat) (l2 : Nat) (l9 : Int32) (l11 : Int32) (l12 : Int32) (l14 : Int32) (l15 : Int32) (l20 : Int32) (m : ml_M), fL_law_839 (ml_sl (ml_eG E)) (ml_sx (ml_eG E)) k636 l1 l2 l9 l11 l12 l14 l15 l20 m = some (rv, rm) → ml_V E RL cL_law 20 false m 839 [(0, ml_q (ml_sb (ml_eG E))), (1, ml_r l1), (2, ml_r l2), (9, ml_i l9), (11, ml_i l11), (12, ml_i l12), (14, ml_i l14), (15, ml_i l15), (20, ml_i l20)] [] := by
  intro l1 l2 l9 l11 l12 l14 l15 l20 m h
  unfold fL_law_839 at h
  exact ml_iload dL_law_839 7 rfl <| ml_if_ne dL_law_841 h (fun _ h => ml_V.sub [0, 1, 2, 3, 4, 5, 6, 7] rfl (vL_law_851 hL hr hk636 _ _ _ _ _ _ _ _ h)) (fun _ h => ml_iload dL_law_844 8 rfl <| ml_if_eq dL_law_846 h (fun _ h => ml_V.sub [0, 1, 2, 3, 4, 5, 6, 7] rfl (vL_law_851 hL hr hk636 _ _ _ _ _ _ _ _ h)) (fun _ h => ml_iconst dL_law_849 kc_i0 <| ml_rI (mk := ml_i) hr dL_law_850 (fun e => Or.inl e.symm) h))
def fL_law_827 (sl : Nat) (sx : Nat → Int32) (k636 : Nat → Nat → Int32 → Int32 → Int32 → Int32 → Int32 → ml_M → Option (Int32 × ml_M)) (l1 : Nat) (l2 : Nat) (l9 : Int32) (l11 : Int32) (l12 : Int32) (l14 : Int32) (l15 : Int32) (l17 : Int32) (l20 : Int32) (m : ml_M) : Option (Int32 × ml_M) :=
    if l15 ≤ 0 then
    fL_law_839 sl sx k636 l1 l2 l9 l11 l12 l14 l15 l20 m
    else
    if l20 = l17 then
    fL_law_839 sl sx k636 l1 l2 l9 l11 l12 l14 l15 l20 m
    else
    some ((0 : Int32), m)
theorem vL_law_827 {E : ml_E} (hL : ml_eL E = 22) {rv : Int32} {rm : ml_M} (hr : ∀ (pc pc' : Nat) (lv : List (Nat × ml_X)), ml_d cL_law pc .ireturn 1 pc' → (rv = 0 ∨ rv = 1) → ml_V E RL cL_law 20 false rm pc lv [ml_i rv]) {k636 : Nat → Nat → Int32 → Int32 → Int32 → Int32 → Int32 → ml_M → Option (Int32 × ml_M)} (hk636 : ∀ (l1 : Nat) (l2 : Nat) (l9 : Int32) (l11 : Int32) (l12 : Int32) (l13 : Int32) (l14 : Int32) (m : ml_M), k636 l1 l2 l9 l11 l12 l13 l14 m = some (rv, rm) → ml_V E RL cL_law 20 false m 636 [(0, ml_q (ml_sb (ml_eG E))), (1, ml_r l1), (2, ml_r l2), (9, ml_i l9), (11, ml_i l11), (12, ml_i l12), (13, ml_i l13), (14, ml_i l14)] []) : ∀ (l1 : Nat) (l2 : Nat) (l9 : Int32) (l11 : Int32) (l12 : Int32) (l14 : Int32) (l15 : Int32) (l17 : Int32) (l20 : Int32) (m : ml_M), fL_law_827 (ml_sl (ml_eG E)) (ml_sx (ml_eG E)) k636 l1 l2 l9 l11 l12 l14 l15 l17 l20 m = some (rv, rm) → ml_V E RL cL_law 20 false m 827 [(0, ml_q (ml_sb (ml_eG E))), (1, ml_r l1), (2, ml_r l2), (9, ml_i l9), (11, ml_i l11), (12, ml_i l12), (14, ml_i l14), (15, ml_i l15), (17, ml_i l17), (20, ml_i l20)] [] := by
  intro l1 l2 l9 l11 l12 l14 l15 l17 l20 m h
  unfold fL_law_827 at h
  exact ml_iload dL_law_827 7 rfl <| ml_if_le dL_law_829 h (fun _ h => ml_V.sub [0, 1, 2, 3, 4, 5, 6, 7, 9] rfl (vL_law_839 hL hr hk636 _ _ _ _ _ _ _ _ _ h)) (fun _ h => ml_iload dL_law_832 9 rfl <| ml_iload dL_law_834 8 rfl <| ml_icmp_ne dL_law_836 h (fun _ h => ml_iconst dL_law_849 kc_i0 <| ml_rI (mk := ml_i) hr dL_law_850 (fun e => Or.inl e.symm) h) (fun _ h => ml_V.sub [0, 1, 2, 3, 4, 5, 6, 7, 9] rfl (vL_law_839 hL hr hk636 _ _ _ _ _ _ _ _ _ h)))
def fL_law_801 (sl : Nat) (sx : Nat → Int32) (k636 : Nat → Nat → Int32 → Int32 → Int32 → Int32 → Int32 → ml_M → Option (Int32 × ml_M)) : Nat → Nat → Nat → Int32 → Int32 → Int32 → Int32 → Int32 → Int32 → Int32 → Int32 → ml_M → Option (Int32 × ml_M)
  | 0, _, _, _, _, _, _, _, _, _, _, _ => none
  | fu + 1, l1, l2, l9, l11, l12, l14, l15, l17, l20, l21, m =>
    if l9 ≤ l21 then
    fL_law_827 sl sx k636 l1 l2 l9 l11 l12 l14 l15 l17 l20 m
    else
    if (ml_K m l1).1 = 10 then
    ml_b2 (fX10_whose l1 l21 l14 m) fun r1947 m1948 =>
    ml_let (l20 ||| r1947) fun x1949 =>
    (fL_law_801 sl sx k636 fu) l1 l2 l9 l11 l12 l14 l15 l17 x1949 (l21 + (1 : Int32)) m1948
    else none
theorem vL_law_801 {E : ml_E} (hL : ml_eL E = 22) {rv : Int32} {rm : ml_M} (hr : ∀ (pc pc' : Nat) (lv : List (Nat × ml_X)), ml_d cL_law pc .ireturn 1 pc' → (rv = 0 ∨ rv = 1) → ml_V E RL cL_law 20 false rm pc lv [ml_i rv]) {k636 : Nat → Nat → Int32 → Int32 → Int32 → Int32 → Int32 → ml_M → Option (Int32 × ml_M)} (hk636 : ∀ (l1 : Nat) (l2 : Nat) (l9 : Int32) (l11 : Int32) (l12 : Int32) (l13 : Int32) (l14 : Int32) (m : ml_M), k636 l1 l2 l9 l11 l12 l13 l14 m = some (rv, rm) → ml_V E RL cL_law 20 false m 636 [(0, ml_q (ml_sb (ml_eG E))), (1, ml_r l1), (2, ml_r l2), (9, ml_i l9), (11, ml_i l11), (12, ml_i l12), (13, ml_i l13), (14, ml_i l14)] []) : ∀ (fu : Nat) (l1 : Nat) (l2 : Nat) (l9 : Int32) (l11 : Int32) (l12 : Int32) (l14 : Int32) (l15 : Int32) (l17 : Int32) (l20 : Int32) (l21 : Int32) (m : ml_M), fL_law_801 (ml_sl (ml_eG E)) (ml_sx (ml_eG E)) k636 fu l1 l2 l9 l11 l12 l14 l15 l17 l20 l21 m = some (rv, rm) → ml_V E RL cL_law 20 false m 801 [(0, ml_q (ml_sb (ml_eG E))), (1, ml_r l1), (2, ml_r l2), (9, ml_i l9), (11, ml_i l11), (12, ml_i l12), (14, ml_i l14), (15, ml_i l15), (17, ml_i l17), (20, ml_i l20), (21, ml_i l21)] [] := by
  intro fu
  induction fu with
  | zero => intro l1 l2 l9 l11 l12 l14 l15 l17 l20 l21 m h; exact ml_none h
  | succ fu ih =>
    intro l1 l2 l9 l11 l12 l14 l15 l17 l20 l21 m h
    have hk801 := ih
    unfold fL_law_801 at h
    exact ml_iload dL_law_801 10 rfl <| ml_iload dL_law_803 3 rfl <| ml_icmp_ge dL_law_805 h (fun _ h => ml_V.sub [0, 1, 2, 3, 4, 5, 6, 7, 8, 9] rfl (vL_law_827 hL hr hk636 _ _ _ _ _ _ _ _ _ _ h)) (fun _ h => ml_iload dL_law_808 9 rfl <| ml_aload_n dL_law_810 1 rfl <| ml_iload dL_law_811 10 rfl <| ml_iload dL_law_813 6 rfl <| ml_ck_of h fun hc1946 h => ml_b2_of h fun r1947 m1948 hv1945 h => ml_callV dL_law_815 wm_519 wb_308 hc1946 (sX10_whose hv1945) rfl (Nat.le_of_ble_eq_true rfl) (Nat.le_of_ble_eq_true rfl) rfl <| ml_ior dL_law_818 <| ml_lx (mk := ml_i) h fun x1949 h => ml_istore (lv' := [(20, ml_i x1949), (0, ml_q (ml_sb (ml_eG E))), (1, ml_r l1), (2, ml_r l2), (9, ml_i l9), (11, ml_i l11), (12, ml_i l12), (14, ml_i l14), (15, ml_i l15), (17, ml_i l17), (21, ml_i l21)]) dL_law_819 (ml_hn hL rfl) rfl <| ml_iinc (lv' := [(21, ml_i (l21 + (1 : Int32))), (20, ml_i x1949), (0, ml_q (ml_sb (ml_eG E))), (1, ml_r l1), (2, ml_r l2), (9, ml_i l9), (11, ml_i l11), (12, ml_i l12), (14, ml_i l14), (15, ml_i l15), (17, ml_i l17)]) dL_law_821 10 rfl (congrArg (l21 + ·) kc_i1) (ml_hn hL rfl) rfl <| ml_goto dL_law_824 <| ml_V.sub [2, 3, 4, 5, 6, 7, 8, 9, 10, 1, 0] rfl (hk801 _ _ _ _ _ _ _ _ _ _ _ h))
def fL_law_795 (sl : Nat) (sx : Nat → Int32) (k636 : Nat → Nat → Int32 → Int32 → Int32 → Int32 → Int32 → ml_M → Option (Int32 × ml_M)) (l1 : Nat) (l2 : Nat) (l9 : Int32) (l11 : Int32) (l12 : Int32) (l14 : Int32) (l15 : Int32) (l17 : Int32) (m : ml_M) : Option (Int32 × ml_M) :=
    fL_law_801 sl sx k636 ml_fu l1 l2 l9 l11 l12 l14 l15 l17 (0 : Int32) (0 : Int32) m
theorem vL_law_795 {E : ml_E} (hL : ml_eL E = 22) {rv : Int32} {rm : ml_M} (hr : ∀ (pc pc' : Nat) (lv : List (Nat × ml_X)), ml_d cL_law pc .ireturn 1 pc' → (rv = 0 ∨ rv = 1) → ml_V E RL cL_law 20 false rm pc lv [ml_i rv]) {k636 : Nat → Nat → Int32 → Int32 → Int32 → Int32 → Int32 → ml_M → Option (Int32 × ml_M)} (hk636 : ∀ (l1 : Nat) (l2 : Nat) (l9 : Int32) (l11 : Int32) (l12 : Int32) (l13 : Int32) (l14 : Int32) (m : ml_M), k636 l1 l2 l9 l11 l12 l13 l14 m = some (rv, rm) → ml_V E RL cL_law 20 false m 636 [(0, ml_q (ml_sb (ml_eG E))), (1, ml_r l1), (2, ml_r l2), (9, ml_i l9), (11, ml_i l11), (12, ml_i l12), (13, ml_i l13), (14, ml_i l14)] []) : ∀ (l1 : Nat) (l2 : Nat) (l9 : Int32) (l11 : Int32) (l12 : Int32) (l14 : Int32) (l15 : Int32) (l17 : Int32) (m : ml_M), fL_law_795 (ml_sl (ml_eG E)) (ml_sx (ml_eG E)) k636 l1 l2 l9 l11 l12 l14 l15 l17 m = some (rv, rm) → ml_V E RL cL_law 20 false m 795 [(0, ml_q (ml_sb (ml_eG E))), (1, ml_r l1), (2, ml_r l2), (9, ml_i l9), (11, ml_i l11), (12, ml_i l12), (14, ml_i l14), (15, ml_i l15), (17, ml_i l17)] [] := by
  intro l1 l2 l9 l11 l12 l14 l15 l17 m h
  unfold fL_law_795 at h
  exact ml_iconst dL_law_795 kc_i0 <| ml_istore (lv' := [(20, ml_i (0 : Int32)), (0, ml_q (ml_sb (ml_eG E))), (1, ml_r l1), (2, ml_r l2), (9, ml_i l9), (11, ml_i l11), (12, ml_i l12), (14, ml_i l14), (15, ml_i l15), (17, ml_i l17)]) dL_law_796 (ml_hn hL rfl) rfl <| ml_iconst dL_law_798 kc_i0 <| ml_istore (lv' := [(21, ml_i (0 : Int32)), (20, ml_i (0 : Int32)), (0, ml_q (ml_sb (ml_eG E))), (1, ml_r l1), (2, ml_r l2), (9, ml_i l9), (11, ml_i l11), (12, ml_i l12), (14, ml_i l14), (15, ml_i l15), (17, ml_i l17)]) dL_law_799 (ml_hn hL rfl) rfl <| ml_V.sub [2, 3, 4, 5, 6, 7, 8, 9, 10, 1, 0] rfl (vL_law_801 hL hr hk636 ml_fu _ _ _ _ _ _ _ _ _ _ _ h)
def fL_law_747 (sl : Nat) (sx : Nat → Int32) (k636 : Nat → Nat → Int32 → Int32 → Int32 → Int32 → Int32 → ml_M → Option (Int32 × ml_M)) (l1 : Nat) (l2 : Nat) (l9 : Int32) (l11 : Int32) (l12 : Int32) (l14 : Int32) (l15 : Int32) (l16 : Int32) (l17 : Int32) (l18 : Int32) (l19 : Int32) (t0 : Int32) (t1 : Int32) (m : ml_M) : Option (Int32 × ml_M) :=
    if t1 = t0 then
    if l16 < 0 then
    fL_law_795 sl sx k636 l1 l2 l9 l11 l12 l14 l15 l17 m
    else
    if (l16 &&& (l17 ^^^ (-1 : Int32))) = 0 then
    ml_b1 (fL_bits l16 m) fun r1951 =>
    if l9 < r1951 then
    some ((0 : Int32), m)
    else
    if l15 < l19 then
    some ((0 : Int32), m)
    else
    if l19 < (1 : Int32) then
    some ((0 : Int32), m)
    else
    if 0 ≤ l18 then
    fL_law_795 sl sx k636 l1 l2 l9 l11 l12 l14 l15 l17 m
    else
    some ((0 : Int32), m)
    else
    some ((0 : Int32), m)
    else
    some ((0 : Int32), m)
theorem vL_law_747 {E : ml_E} (hL : ml_eL E = 22) {rv : Int32} {rm : ml_M} (hr : ∀ (pc pc' : Nat) (lv : List (Nat × ml_X)), ml_d cL_law pc .ireturn 1 pc' → (rv = 0 ∨ rv = 1) → ml_V E RL cL_law 20 false rm pc lv [ml_i rv]) {k636 : Nat → Nat → Int32 → Int32 → Int32 → Int32 → Int32 → ml_M → Option (Int32 × ml_M)} (hk636 : ∀ (l1 : Nat) (l2 : Nat) (l9 : Int32) (l11 : Int32) (l12 : Int32) (l13 : Int32) (l14 : Int32) (m : ml_M), k636 l1 l2 l9 l11 l12 l13 l14 m = some (rv, rm) → ml_V E RL cL_law 20 false m 636 [(0, ml_q (ml_sb (ml_eG E))), (1, ml_r l1), (2, ml_r l2), (9, ml_i l9), (11, ml_i l11), (12, ml_i l12), (13, ml_i l13), (14, ml_i l14)] []) : ∀ (l1 : Nat) (l2 : Nat) (l9 : Int32) (l11 : Int32) (l12 : Int32) (l14 : Int32) (l15 : Int32) (l16 : Int32) (l17 : Int32) (l18 : Int32) (l19 : Int32) (t0 : Int32) (t1 : Int32) (m : ml_M), fL_law_747 (ml_sl (ml_eG E)) (ml_sx (ml_eG E)) k636 l1 l2 l9 l11 l12 l14 l15 l16 l17 l18 l19 t0 t1 m = some (rv, rm) → ml_V E RL cL_law 20 false m 747 [(0, ml_q (ml_sb (ml_eG E))), (1, ml_r l1), (2, ml_r l2), (9, ml_i l9), (11, ml_i l11), (12, ml_i l12), (14, ml_i l14), (15, ml_i l15), (16, ml_i l16), (17, ml_i l17), (18, ml_i l18), (19, ml_i l19)] [ml_i t0, ml_i t1] := by
  intro l1 l2 l9 l11 l12 l14 l15 l16 l17 l18 l19 t0 t1 m h
  unfold fL_law_747 at h
  exact ml_icmp_ne dL_law_747 h (fun _ h => ml_iconst dL_law_793 kc_i0 <| ml_rI (mk := ml_i) hr dL_law_794 (fun e => Or.inl e.symm) h) (fun _ h => ml_iload dL_law_750 8 rfl <| ml_if_lt dL_law_752 h (fun _ h => ml_V.sub [0, 1, 2, 3, 4, 5, 6, 7, 9] rfl (vL_law_795 hL hr hk636 _ _ _ _ _ _ _ _ _ h)) (fun _ h => ml_iload dL_law_755 8 rfl <| ml_iload dL_law_757 9 rfl <| ml_iconst dL_law_759 kc_im1 <| ml_ixor dL_law_760 <| ml_iand dL_law_761 <| ml_if_ne dL_law_762 h (fun _ h => ml_iconst dL_law_793 kc_i0 <| ml_rI (mk := ml_i) hr dL_law_794 (fun e => Or.inl e.symm) h) (fun _ h => ml_iload dL_law_765 8 rfl <| ml_b1_of h fun r1951 hv1950 h => ml_callS dL_law_767 wm_163 wb_87 (sL_bits hv1950) rfl (Nat.le_of_ble_eq_true rfl) (Nat.le_of_ble_eq_true rfl) rfl <| ml_iload dL_law_770 3 rfl <| ml_icmp_gt dL_law_772 h (fun _ h => ml_iconst dL_law_793 kc_i0 <| ml_rI (mk := ml_i) hr dL_law_794 (fun e => Or.inl e.symm) h) (fun _ h => ml_iload dL_law_775 11 rfl <| ml_iload dL_law_777 7 rfl <| ml_icmp_gt dL_law_779 h (fun _ h => ml_iconst dL_law_793 kc_i0 <| ml_rI (mk := ml_i) hr dL_law_794 (fun e => Or.inl e.symm) h) (fun _ h => ml_iload dL_law_782 11 rfl <| ml_iconst dL_law_784 kc_i1 <| ml_icmp_lt dL_law_785 h (fun _ h => ml_iconst dL_law_793 kc_i0 <| ml_rI (mk := ml_i) hr dL_law_794 (fun e => Or.inl e.symm) h) (fun _ h => ml_iload dL_law_788 10 rfl <| ml_if_ge dL_law_790 h (fun _ h => ml_V.sub [0, 1, 2, 3, 4, 5, 6, 7, 9] rfl (vL_law_795 hL hr hk636 _ _ _ _ _ _ _ _ _ h)) (fun _ h => ml_iconst dL_law_793 kc_i0 <| ml_rI (mk := ml_i) hr dL_law_794 (fun e => Or.inl e.symm) h)))))))
def fL_law_737 (sl : Nat) (sx : Nat → Int32) (k636 : Nat → Nat → Int32 → Int32 → Int32 → Int32 → Int32 → ml_M → Option (Int32 × ml_M)) (l1 : Nat) (l2 : Nat) (l9 : Int32) (l11 : Int32) (l12 : Int32) (l14 : Int32) (l15 : Int32) (l16 : Int32) (l17 : Int32) (l18 : Int32) (l19 : Int32) (t0 : Int32) (m : ml_M) : Option (Int32 × ml_M) :=
    if l15 ≤ 0 then
    fL_law_747 sl sx k636 l1 l2 l9 l11 l12 l14 l15 l16 l17 l18 l19 (0 : Int32) t0 m
    else
    fL_law_747 sl sx k636 l1 l2 l9 l11 l12 l14 l15 l16 l17 l18 l19 (1 : Int32) t0 m
theorem vL_law_737 {E : ml_E} (hL : ml_eL E = 22) {rv : Int32} {rm : ml_M} (hr : ∀ (pc pc' : Nat) (lv : List (Nat × ml_X)), ml_d cL_law pc .ireturn 1 pc' → (rv = 0 ∨ rv = 1) → ml_V E RL cL_law 20 false rm pc lv [ml_i rv]) {k636 : Nat → Nat → Int32 → Int32 → Int32 → Int32 → Int32 → ml_M → Option (Int32 × ml_M)} (hk636 : ∀ (l1 : Nat) (l2 : Nat) (l9 : Int32) (l11 : Int32) (l12 : Int32) (l13 : Int32) (l14 : Int32) (m : ml_M), k636 l1 l2 l9 l11 l12 l13 l14 m = some (rv, rm) → ml_V E RL cL_law 20 false m 636 [(0, ml_q (ml_sb (ml_eG E))), (1, ml_r l1), (2, ml_r l2), (9, ml_i l9), (11, ml_i l11), (12, ml_i l12), (13, ml_i l13), (14, ml_i l14)] []) : ∀ (l1 : Nat) (l2 : Nat) (l9 : Int32) (l11 : Int32) (l12 : Int32) (l14 : Int32) (l15 : Int32) (l16 : Int32) (l17 : Int32) (l18 : Int32) (l19 : Int32) (t0 : Int32) (m : ml_M), fL_law_737 (ml_sl (ml_eG E)) (ml_sx (ml_eG E)) k636 l1 l2 l9 l11 l12 l14 l15 l16 l17 l18 l19 t0 m = some (rv, rm) → ml_V E RL cL_law 20 false m 737 [(0, ml_q (ml_sb (ml_eG E))), (1, ml_r l1), (2, ml_r l2), (9, ml_i l9), (11, ml_i l11), (12, ml_i l12), (14, ml_i l14), (15, ml_i l15), (16, ml_i l16), (17, ml_i l17), (18, ml_i l18), (19, ml_i l19)] [ml_i t0] := by
  intro l1 l2 l9 l11 l12 l14 l15 l16 l17 l18 l19 t0 m h
  unfold fL_law_737 at h
  exact ml_iload dL_law_737 7 rfl <| ml_if_le dL_law_739 h (fun _ h => ml_iconst dL_law_746 kc_i0 <| ml_V.sub [0, 1, 2, 3, 4, 5, 6, 7, 8, 9, 10, 11] rfl (vL_law_747 hL hr hk636 _ _ _ _ _ _ _ _ _ _ _ _ _ _ h)) (fun _ h => ml_iconst dL_law_742 kc_i1 <| ml_goto dL_law_743 <| ml_V.sub [0, 1, 2, 3, 4, 5, 6, 7, 8, 9, 10, 11] rfl (vL_law_747 hL hr hk636 _ _ _ _ _ _ _ _ _ _ _ _ _ _ h))
def fL_law_724 (sl : Nat) (sx : Nat → Int32) (k636 : Nat → Nat → Int32 → Int32 → Int32 → Int32 → Int32 → ml_M → Option (Int32 × ml_M)) (l1 : Nat) (l2 : Nat) (l9 : Int32) (l11 : Int32) (l12 : Int32) (l14 : Int32) (l15 : Int32) (l16 : Int32) (l17 : Int32) (l18 : Int32) (l19 : Int32) (t0 : Int32) (t1 : Int32) (m : ml_M) : Option (Int32 × ml_M) :=
    if t1 = t0 then
    if l16 < 0 then
    fL_law_737 sl sx k636 l1 l2 l9 l11 l12 l14 l15 l16 l17 l18 l19 (0 : Int32) m
    else
    fL_law_737 sl sx k636 l1 l2 l9 l11 l12 l14 l15 l16 l17 l18 l19 (1 : Int32) m
    else
    some ((0 : Int32), m)
theorem vL_law_724 {E : ml_E} (hL : ml_eL E = 22) {rv : Int32} {rm : ml_M} (hr : ∀ (pc pc' : Nat) (lv : List (Nat × ml_X)), ml_d cL_law pc .ireturn 1 pc' → (rv = 0 ∨ rv = 1) → ml_V E RL cL_law 20 false rm pc lv [ml_i rv]) {k636 : Nat → Nat → Int32 → Int32 → Int32 → Int32 → Int32 → ml_M → Option (Int32 × ml_M)} (hk636 : ∀ (l1 : Nat) (l2 : Nat) (l9 : Int32) (l11 : Int32) (l12 : Int32) (l13 : Int32) (l14 : Int32) (m : ml_M), k636 l1 l2 l9 l11 l12 l13 l14 m = some (rv, rm) → ml_V E RL cL_law 20 false m 636 [(0, ml_q (ml_sb (ml_eG E))), (1, ml_r l1), (2, ml_r l2), (9, ml_i l9), (11, ml_i l11), (12, ml_i l12), (13, ml_i l13), (14, ml_i l14)] []) : ∀ (l1 : Nat) (l2 : Nat) (l9 : Int32) (l11 : Int32) (l12 : Int32) (l14 : Int32) (l15 : Int32) (l16 : Int32) (l17 : Int32) (l18 : Int32) (l19 : Int32) (t0 : Int32) (t1 : Int32) (m : ml_M), fL_law_724 (ml_sl (ml_eG E)) (ml_sx (ml_eG E)) k636 l1 l2 l9 l11 l12 l14 l15 l16 l17 l18 l19 t0 t1 m = some (rv, rm) → ml_V E RL cL_law 20 false m 724 [(0, ml_q (ml_sb (ml_eG E))), (1, ml_r l1), (2, ml_r l2), (9, ml_i l9), (11, ml_i l11), (12, ml_i l12), (14, ml_i l14), (15, ml_i l15), (16, ml_i l16), (17, ml_i l17), (18, ml_i l18), (19, ml_i l19)] [ml_i t0, ml_i t1] := by
  intro l1 l2 l9 l11 l12 l14 l15 l16 l17 l18 l19 t0 t1 m h
  unfold fL_law_724 at h
  exact ml_icmp_ne dL_law_724 h (fun _ h => ml_iconst dL_law_793 kc_i0 <| ml_rI (mk := ml_i) hr dL_law_794 (fun e => Or.inl e.symm) h) (fun _ h => ml_iload dL_law_727 8 rfl <| ml_if_lt dL_law_729 h (fun _ h => ml_iconst dL_law_736 kc_i0 <| ml_V.sub [0, 1, 2, 3, 4, 5, 6, 7, 8, 9, 10, 11] rfl (vL_law_737 hL hr hk636 _ _ _ _ _ _ _ _ _ _ _ _ _ h)) (fun _ h => ml_iconst dL_law_732 kc_i1 <| ml_goto dL_law_733 <| ml_V.sub [0, 1, 2, 3, 4, 5, 6, 7, 8, 9, 10, 11] rfl (vL_law_737 hL hr hk636 _ _ _ _ _ _ _ _ _ _ _ _ _ h)))
def fL_law_723 (sl : Nat) (sx : Nat → Int32) (k636 : Nat → Nat → Int32 → Int32 → Int32 → Int32 → Int32 → ml_M → Option (Int32 × ml_M)) (l1 : Nat) (l2 : Nat) (l9 : Int32) (l11 : Int32) (l12 : Int32) (l14 : Int32) (l15 : Int32) (l16 : Int32) (l17 : Int32) (l18 : Int32) (l19 : Int32) (t0 : Int32) (m : ml_M) : Option (Int32 × ml_M) :=
    fL_law_724 sl sx k636 l1 l2 l9 l11 l12 l14 l15 l16 l17 l18 l19 (0 : Int32) t0 m
theorem vL_law_723 {E : ml_E} (hL : ml_eL E = 22) {rv : Int32} {rm : ml_M} (hr : ∀ (pc pc' : Nat) (lv : List (Nat × ml_X)), ml_d cL_law pc .ireturn 1 pc' → (rv = 0 ∨ rv = 1) → ml_V E RL cL_law 20 false rm pc lv [ml_i rv]) {k636 : Nat → Nat → Int32 → Int32 → Int32 → Int32 → Int32 → ml_M → Option (Int32 × ml_M)} (hk636 : ∀ (l1 : Nat) (l2 : Nat) (l9 : Int32) (l11 : Int32) (l12 : Int32) (l13 : Int32) (l14 : Int32) (m : ml_M), k636 l1 l2 l9 l11 l12 l13 l14 m = some (rv, rm) → ml_V E RL cL_law 20 false m 636 [(0, ml_q (ml_sb (ml_eG E))), (1, ml_r l1), (2, ml_r l2), (9, ml_i l9), (11, ml_i l11), (12, ml_i l12), (13, ml_i l13), (14, ml_i l14)] []) : ∀ (l1 : Nat) (l2 : Nat) (l9 : Int32) (l11 : Int32) (l12 : Int32) (l14 : Int32) (l15 : Int32) (l16 : Int32) (l17 : Int32) (l18 : Int32) (l19 : Int32) (t0 : Int32) (m : ml_M), fL_law_723 (ml_sl (ml_eG E)) (ml_sx (ml_eG E)) k636 l1 l2 l9 l11 l12 l14 l15 l16 l17 l18 l19 t0 m = some (rv, rm) → ml_V E RL cL_law 20 false m 723 [(0, ml_q (ml_sb (ml_eG E))), (1, ml_r l1), (2, ml_r l2), (9, ml_i l9), (11, ml_i l11), (12, ml_i l12), (14, ml_i l14), (15, ml_i l15), (16, ml_i l16), (17, ml_i l17), (18, ml_i l18), (19, ml_i l19)] [ml_i t0] := by
  intro l1 l2 l9 l11 l12 l14 l15 l16 l17 l18 l19 t0 m h
  unfold fL_law_723 at h
  exact ml_iconst dL_law_723 kc_i0 <| ml_V.sub [0, 1, 2, 3, 4, 5, 6, 7, 8, 9, 10, 11] rfl (vL_law_724 hL hr hk636 _ _ _ _ _ _ _ _ _ _ _ _ _ _ h)
def fL_law_707 (sl : Nat) (sx : Nat → Int32) (k636 : Nat → Nat → Int32 → Int32 → Int32 → Int32 → Int32 → ml_M → Option (Int32 × ml_M)) (l1 : Nat) (l2 : Nat) (l9 : Int32) (l11 : Int32) (l12 : Int32) (l14 : Int32) (l15 : Int32) (l16 : Int32) (l17 : Int32) (l18 : Int32) (l19 : Int32) (t0 : Int32) (m : ml_M) : Option (Int32 × ml_M) :=
    if l12 < 0 then
    fL_law_723 sl sx k636 l1 l2 l9 l11 l12 l14 l15 l16 l17 l18 l19 t0 m
    else
    if l14 < l12 then
    fL_law_723 sl sx k636 l1 l2 l9 l11 l12 l14 l15 l16 l17 l18 l19 t0 m
    else
    fL_law_724 sl sx k636 l1 l2 l9 l11 l12 l14 l15 l16 l17 l18 l19 (1 : Int32) t0 m
theorem vL_law_707 {E : ml_E} (hL : ml_eL E = 22) {rv : Int32} {rm : ml_M} (hr : ∀ (pc pc' : Nat) (lv : List (Nat × ml_X)), ml_d cL_law pc .ireturn 1 pc' → (rv = 0 ∨ rv = 1) → ml_V E RL cL_law 20 false rm pc lv [ml_i rv]) {k636 : Nat → Nat → Int32 → Int32 → Int32 → Int32 → Int32 → ml_M → Option (Int32 × ml_M)} (hk636 : ∀ (l1 : Nat) (l2 : Nat) (l9 : Int32) (l11 : Int32) (l12 : Int32) (l13 : Int32) (l14 : Int32) (m : ml_M), k636 l1 l2 l9 l11 l12 l13 l14 m = some (rv, rm) → ml_V E RL cL_law 20 false m 636 [(0, ml_q (ml_sb (ml_eG E))), (1, ml_r l1), (2, ml_r l2), (9, ml_i l9), (11, ml_i l11), (12, ml_i l12), (13, ml_i l13), (14, ml_i l14)] []) : ∀ (l1 : Nat) (l2 : Nat) (l9 : Int32) (l11 : Int32) (l12 : Int32) (l14 : Int32) (l15 : Int32) (l16 : Int32) (l17 : Int32) (l18 : Int32) (l19 : Int32) (t0 : Int32) (m : ml_M), fL_law_707 (ml_sl (ml_eG E)) (ml_sx (ml_eG E)) k636 l1 l2 l9 l11 l12 l14 l15 l16 l17 l18 l19 t0 m = some (rv, rm) → ml_V E RL cL_law 20 false m 707 [(0, ml_q (ml_sb (ml_eG E))), (1, ml_r l1), (2, ml_r l2), (9, ml_i l9), (11, ml_i l11), (12, ml_i l12), (14, ml_i l14), (15, ml_i l15), (16, ml_i l16), (17, ml_i l17), (18, ml_i l18), (19, ml_i l19)] [ml_i t0] := by
  intro l1 l2 l9 l11 l12 l14 l15 l16 l17 l18 l19 t0 m h
  unfold fL_law_707 at h
  exact ml_iload dL_law_707 5 rfl <| ml_if_lt dL_law_709 h (fun _ h => ml_V.sub [0, 1, 2, 3, 4, 5, 6, 7, 8, 9, 10, 11] rfl (vL_law_723 hL hr hk636 _ _ _ _ _ _ _ _ _ _ _ _ _ h)) (fun _ h => ml_iload dL_law_712 5 rfl <| ml_iload dL_law_714 6 rfl <| ml_icmp_gt dL_law_716 h (fun _ h => ml_V.sub [0, 1, 2, 3, 4, 5, 6, 7, 8, 9, 10, 11] rfl (vL_law_723 hL hr hk636 _ _ _ _ _ _ _ _ _ _ _ _ _ h)) (fun _ h => ml_iconst dL_law_719 kc_i1 <| ml_goto dL_law_720 <| ml_V.sub [0, 1, 2, 3, 4, 5, 6, 7, 8, 9, 10, 11] rfl (vL_law_724 hL hr hk636 _ _ _ _ _ _ _ _ _ _ _ _ _ _ h)))
def fL_law_976 (sl : Nat) (sx : Nat → Int32) (k892 : Nat → Nat → Int32 → Int32 → Int32 → ml_M → Option (Int32 × ml_M)) (l1 : Nat) (l2 : Nat) (l11 : Int32) (l12 : Int32) (l14 : Int32) (t0 : Int32) (t1 : Int32) (t2 : Int32) (t3 : Nat) (m : ml_M) : Option (Int32 × ml_M) :=
    if (ml_K m t3).1 = 10 then
    ml_b2 (fX10_lies t3 t2 t1 t0 m) fun r1954 m1955 =>
    if r1954 = (1 : Int32) then
    k892 l1 l2 l11 l12 (l14 + (1 : Int32)) m1955
    else
    some ((0 : Int32), m1955)
    else none
theorem vL_law_976 {E : ml_E} (hL : ml_eL E = 22) {rv : Int32} {rm : ml_M} (hr : ∀ (pc pc' : Nat) (lv : List (Nat × ml_X)), ml_d cL_law pc .ireturn 1 pc' → (rv = 0 ∨ rv = 1) → ml_V E RL cL_law 20 false rm pc lv [ml_i rv]) {k892 : Nat → Nat → Int32 → Int32 → Int32 → ml_M → Option (Int32 × ml_M)} (hk892 : ∀ (l1 : Nat) (l2 : Nat) (l11 : Int32) (l12 : Int32) (l14 : Int32) (m : ml_M), k892 l1 l2 l11 l12 l14 m = some (rv, rm) → ml_V E RL cL_law 20 false m 892 [(0, ml_q (ml_sb (ml_eG E))), (1, ml_r l1), (2, ml_r l2), (11, ml_i l11), (12, ml_i l12), (14, ml_i l14)] []) : ∀ (l1 : Nat) (l2 : Nat) (l11 : Int32) (l12 : Int32) (l14 : Int32) (t0 : Int32) (t1 : Int32) (t2 : Int32) (t3 : Nat) (m : ml_M), fL_law_976 (ml_sl (ml_eG E)) (ml_sx (ml_eG E)) k892 l1 l2 l11 l12 l14 t0 t1 t2 t3 m = some (rv, rm) → ml_V E RL cL_law 20 false m 976 [(0, ml_q (ml_sb (ml_eG E))), (1, ml_r l1), (2, ml_r l2), (11, ml_i l11), (12, ml_i l12), (14, ml_i l14)] [ml_i t0, ml_i t1, ml_i t2, ml_r t3] := by
  intro l1 l2 l11 l12 l14 t0 t1 t2 t3 m h
  unfold fL_law_976 at h
  exact ml_ck_of h fun hc1953 h => ml_b2_of h fun r1954 m1955 hv1952 h => ml_callV dL_law_976 wm_290 wb_174 hc1953 (sX10_lies hv1952) rfl (Nat.le_of_ble_eq_true rfl) (Nat.le_of_ble_eq_true rfl) rfl <| ml_iconst dL_law_979 kc_i1 <| ml_icmp_eq dL_law_980 h (fun _ h => ml_iinc (lv' := [(14, ml_i (l14 + (1 : Int32))), (0, ml_q (ml_sb (ml_eG E))), (1, ml_r l1), (2, ml_r l2), (11, ml_i l11), (12, ml_i l12)]) dL_law_985 5 rfl (congrArg (l14 + ·) kc_i1) (ml_hn hL rfl) rfl <| ml_goto dL_law_988 <| ml_V.sub [1, 2, 3, 4, 5, 0] rfl (hk892 _ _ _ _ _ _ h)) (fun _ h => ml_iconst dL_law_983 kc_i0 <| ml_rI (mk := ml_i) hr dL_law_984 (fun e => Or.inl e.symm) h)
def fL_law_945 (sl : Nat) (sx : Nat → Int32) (k892 : Nat → Nat → Int32 → Int32 → Int32 → ml_M → Option (Int32 × ml_M)) (l1 : Nat) (l2 : Nat) (l11 : Int32) (l12 : Int32) (l14 : Int32) (l15 : Int32) (t0 : Int32) (m : ml_M) : Option (Int32 × ml_M) :=
    if (ml_K m l1).1 = 10 then
    ml_b2 (fX10_told l1 l15 (4 : Int32) m) fun r1958 m1959 =>
    if r1958 = (1 : Int32) then
    if (ml_K m1959 l1).1 = 10 then
    ml_b1 (fX10_asked l1 m1959) fun r1962 =>
    if r1962 = (1 : Int32) then
    fL_law_976 sl sx k892 l1 l2 l11 l12 l14 (1 : Int32) t0 l15 l1 m1959
    else
    fL_law_976 sl sx k892 l1 l2 l11 l12 l14 (0 : Int32) t0 l15 l1 m1959
    else none
    else
    some ((0 : Int32), m1959)
    else none
theorem vL_law_945 {E : ml_E} (hL : ml_eL E = 22) {rv : Int32} {rm : ml_M} (hr : ∀ (pc pc' : Nat) (lv : List (Nat × ml_X)), ml_d cL_law pc .ireturn 1 pc' → (rv = 0 ∨ rv = 1) → ml_V E RL cL_law 20 false rm pc lv [ml_i rv]) {k892 : Nat → Nat → Int32 → Int32 → Int32 → ml_M → Option (Int32 × ml_M)} (hk892 : ∀ (l1 : Nat) (l2 : Nat) (l11 : Int32) (l12 : Int32) (l14 : Int32) (m : ml_M), k892 l1 l2 l11 l12 l14 m = some (rv, rm) → ml_V E RL cL_law 20 false m 892 [(0, ml_q (ml_sb (ml_eG E))), (1, ml_r l1), (2, ml_r l2), (11, ml_i l11), (12, ml_i l12), (14, ml_i l14)] []) : ∀ (l1 : Nat) (l2 : Nat) (l11 : Int32) (l12 : Int32) (l14 : Int32) (l15 : Int32) (t0 : Int32) (m : ml_M), fL_law_945 (ml_sl (ml_eG E)) (ml_sx (ml_eG E)) k892 l1 l2 l11 l12 l14 l15 t0 m = some (rv, rm) → ml_V E RL cL_law 20 false m 945 [(0, ml_q (ml_sb (ml_eG E))), (1, ml_r l1), (2, ml_r l2), (11, ml_i l11), (12, ml_i l12), (14, ml_i l14), (15, ml_i l15)] [ml_i t0] := by
  intro l1 l2 l11 l12 l14 l15 t0 m h
  unfold fL_law_945 at h
  exact ml_istore (lv' := [(16, ml_i t0), (0, ml_q (ml_sb (ml_eG E))), (1, ml_r l1), (2, ml_r l2), (11, ml_i l11), (12, ml_i l12), (14, ml_i l14), (15, ml_i l15)]) dL_law_945 (ml_hn hL rfl) rfl <| ml_aload_n dL_law_947 2 rfl <| ml_iload dL_law_948 7 rfl <| ml_iconst dL_law_950 kc_i4 <| ml_ck_of h fun hc1957 h => ml_b2_of h fun r1958 m1959 hv1956 h => ml_callV dL_law_951 wm_523 wb_309 hc1957 (sX10_told hv1956) rfl (Nat.le_of_ble_eq_true rfl) (Nat.le_of_ble_eq_true rfl) rfl <| ml_iconst dL_law_954 kc_i1 <| ml_icmp_ne dL_law_955 h (fun _ h => ml_iconst dL_law_983 kc_i0 <| ml_rI (mk := ml_i) hr dL_law_984 (fun e => Or.inl e.symm) h) (fun _ h => ml_aload_n dL_law_958 2 rfl <| ml_iload dL_law_959 7 rfl <| ml_iload dL_law_961 0 rfl <| ml_aload_n dL_law_963 2 rfl <| ml_ck_of h fun hc1961 h => ml_b1_of h fun r1962 hv1960 h => ml_callV dL_law_964 wm_179 wb_91 hc1961 (sX10_asked hv1960) rfl (Nat.le_of_ble_eq_true rfl) (Nat.le_of_ble_eq_true rfl) rfl <| ml_iconst dL_law_967 kc_i1 <| ml_icmp_ne dL_law_968 h (fun _ h => ml_iconst dL_law_975 kc_i0 <| ml_V.sub [1, 2, 3, 4, 5, 6] rfl (vL_law_976 hL hr hk892 _ _ _ _ _ _ _ _ _ _ h)) (fun _ h => ml_iconst dL_law_971 kc_i1 <| ml_goto dL_law_972 <| ml_V.sub [1, 2, 3, 4, 5, 6] rfl (vL_law_976 hL hr hk892 _ _ _ _ _ _ _ _ _ _ h)))
def fL_law_920 (sl : Nat) (sx : Nat → Int32) (k892 : Nat → Nat → Int32 → Int32 → Int32 → ml_M → Option (Int32 × ml_M)) (l1 : Nat) (l2 : Nat) (l11 : Int32) (l12 : Int32) (l14 : Int32) (t0 : Int32) (m : ml_M) : Option (Int32 × ml_M) :=
    if (ml_K m l1).1 = 10 then
    ml_b2 (fX10_at l1 (2 : Int32) (((2 : Int32) * l14) + (1 : Int32)) m) fun r1965 m1966 =>
    if r1965 = (1 : Int32) then
    if (ml_K m1966 l1).1 = 10 then
    ml_b1 (fX10_asked l1 m1966) fun r1969 =>
    fL_law_945 sl sx k892 l1 l2 l11 l12 l14 t0 r1969 m1966
    else none
    else
    fL_law_945 sl sx k892 l1 l2 l11 l12 l14 t0 (-1 : Int32) m1966
    else none
theorem vL_law_920 {E : ml_E} (hL : ml_eL E = 22) {rv : Int32} {rm : ml_M} (hr : ∀ (pc pc' : Nat) (lv : List (Nat × ml_X)), ml_d cL_law pc .ireturn 1 pc' → (rv = 0 ∨ rv = 1) → ml_V E RL cL_law 20 false rm pc lv [ml_i rv]) {k892 : Nat → Nat → Int32 → Int32 → Int32 → ml_M → Option (Int32 × ml_M)} (hk892 : ∀ (l1 : Nat) (l2 : Nat) (l11 : Int32) (l12 : Int32) (l14 : Int32) (m : ml_M), k892 l1 l2 l11 l12 l14 m = some (rv, rm) → ml_V E RL cL_law 20 false m 892 [(0, ml_q (ml_sb (ml_eG E))), (1, ml_r l1), (2, ml_r l2), (11, ml_i l11), (12, ml_i l12), (14, ml_i l14)] []) : ∀ (l1 : Nat) (l2 : Nat) (l11 : Int32) (l12 : Int32) (l14 : Int32) (t0 : Int32) (m : ml_M), fL_law_920 (ml_sl (ml_eG E)) (ml_sx (ml_eG E)) k892 l1 l2 l11 l12 l14 t0 m = some (rv, rm) → ml_V E RL cL_law 20 false m 920 [(0, ml_q (ml_sb (ml_eG E))), (1, ml_r l1), (2, ml_r l2), (11, ml_i l11), (12, ml_i l12), (14, ml_i l14)] [ml_i t0] := by
  intro l1 l2 l11 l12 l14 t0 m h
  unfold fL_law_920 at h
  exact ml_istore (lv' := [(15, ml_i t0), (0, ml_q (ml_sb (ml_eG E))), (1, ml_r l1), (2, ml_r l2), (11, ml_i l11), (12, ml_i l12), (14, ml_i l14)]) dL_law_920 (ml_hn hL rfl) rfl <| ml_aload_n dL_law_922 2 rfl <| ml_iconst dL_law_923 kc_i2 <| ml_iconst dL_law_924 kc_i2 <| ml_iload dL_law_925 6 rfl <| ml_imul dL_law_927 <| ml_iconst dL_law_928 kc_i1 <| ml_iadd dL_law_929 <| ml_ck_of h fun hc1964 h => ml_b2_of h fun r1965 m1966 hv1963 h => ml_callV dL_law_930 wm_499 wb_303 hc1964 (sX10_at hv1963) rfl (Nat.le_of_ble_eq_true rfl) (Nat.le_of_ble_eq_true rfl) rfl <| ml_iconst dL_law_933 kc_i1 <| ml_icmp_ne dL_law_934 h (fun _ h => ml_iconst dL_law_944 kc_im1 <| ml_V.sub [1, 2, 3, 4, 5, 6, 0] rfl (vL_law_945 hL hr hk892 _ _ _ _ _ _ _ _ h)) (fun _ h => ml_aload_n dL_law_937 2 rfl <| ml_ck_of h fun hc1968 h => ml_b1_of h fun r1969 hv1967 h => ml_callV dL_law_938 wm_179 wb_91 hc1968 (sX10_asked hv1967) rfl (Nat.le_of_ble_eq_true rfl) (Nat.le_of_ble_eq_true rfl) rfl <| ml_goto dL_law_941 <| ml_V.sub [1, 2, 3, 4, 5, 6, 0] rfl (vL_law_945 hL hr hk892 _ _ _ _ _ _ _ _ h))
def fL_law_1135 (sl : Nat) (sx : Nat → Int32) (m : ml_M) : Option (Int32 × ml_M) :=
    some ((0 : Int32), m)
theorem vL_law_1135 {E : ml_E} (hL : ml_eL E = 22) {rv : Int32} {rm : ml_M} (hr : ∀ (pc pc' : Nat) (lv : List (Nat × ml_X)), ml_d cL_law pc .ireturn 1 pc' → (rv = 0 ∨ rv = 1) → ml_V E RL cL_law 20 false rm pc lv [ml_i rv]) : ∀  (m : ml_M), fL_law_1135 (ml_sl (ml_eG E)) (ml_sx (ml_eG E))  m = some (rv, rm) → ml_V E RL cL_law 20 false m 1135 [(0, ml_q (ml_sb (ml_eG E)))] [] := by
  intro  m h
  unfold fL_law_1135 at h
  exact ml_goto dL_law_1135 <| ml_iconst dL_law_1145 kc_i0 <| ml_rI (mk := ml_i) hr dL_law_1146 (fun e => Or.inl e.symm) h
def fL_law_1147 (sl : Nat) (sx : Nat → Int32) (k1039 : Nat → Nat → Int32 → Int32 → Int32 → Int32 → ml_M → Option (Int32 × ml_M)) (l1 : Nat) (l2 : Nat) (l11 : Int32) (l14 : Int32) (l15 : Int32) (l16 : Int32) (m : ml_M) : Option (Int32 × ml_M) :=
    k1039 l1 l2 l11 l14 l15 (l16 + (1 : Int32)) m
theorem vL_law_1147 {E : ml_E} (hL : ml_eL E = 22) {rv : Int32} {rm : ml_M} (hr : ∀ (pc pc' : Nat) (lv : List (Nat × ml_X)), ml_d cL_law pc .ireturn 1 pc' → (rv = 0 ∨ rv = 1) → ml_V E RL cL_law 20 false rm pc lv [ml_i rv]) {k1039 : Nat → Nat → Int32 → Int32 → Int32 → Int32 → ml_M → Option (Int32 × ml_M)} (hk1039 : ∀ (l1 : Nat) (l2 : Nat) (l11 : Int32) (l14 : Int32) (l15 : Int32) (l16 : Int32) (m : ml_M), k1039 l1 l2 l11 l14 l15 l16 m = some (rv, rm) → ml_V E RL cL_law 20 false m 1039 [(0, ml_q (ml_sb (ml_eG E))), (1, ml_r l1), (2, ml_r l2), (11, ml_i l11), (14, ml_i l14), (15, ml_i l15), (16, ml_i l16)] []) : ∀ (l1 : Nat) (l2 : Nat) (l11 : Int32) (l14 : Int32) (l15 : Int32) (l16 : Int32) (m : ml_M), fL_law_1147 (ml_sl (ml_eG E)) (ml_sx (ml_eG E)) k1039 l1 l2 l11 l14 l15 l16 m = some (rv, rm) → ml_V E RL cL_law 20 false m 1147 [(0, ml_q (ml_sb (ml_eG E))), (1, ml_r l1), (2, ml_r l2), (11, ml_i l11), (14, ml_i l14), (15, ml_i l15), (16, ml_i l16)] [] := by
  intro l1 l2 l11 l14 l15 l16 m h
  unfold fL_law_1147 at h
  exact ml_iinc (lv' := [(16, ml_i (l16 + (1 : Int32))), (0, ml_q (ml_sb (ml_eG E))), (1, ml_r l1), (2, ml_r l2), (11, ml_i l11), (14, ml_i l14), (15, ml_i l15)]) dL_law_1147 6 rfl (congrArg (l16 + ·) kc_i1) (ml_hn hL rfl) rfl <| ml_goto dL_law_1150 <| ml_V.sub [1, 2, 3, 4, 5, 6, 0] rfl (hk1039 _ _ _ _ _ _ _ h)
def fL_law_1115 (sl : Nat) (sx : Nat → Int32) (k1039 : Nat → Nat → Int32 → Int32 → Int32 → Int32 → ml_M → Option (Int32 × ml_M)) (l1 : Nat) (l2 : Nat) (l11 : Int32) (l14 : Int32) (l15 : Int32) (l16 : Int32) (l17 : Int32) (l18 : Int32) (t0 : Int32) (m : ml_M) : Option (Int32 × ml_M) :=
    if l17 < 0 then
    fL_law_1147 sl sx k1039 l1 l2 l11 l14 l15 l16 m
    else
    if l18 = (1 : Int32) then
    if t0 < l14 then
    fL_law_1147 sl sx k1039 l1 l2 l11 l14 l15 l16 m
    else
    fL_law_1135 sl sx m
    else
    if l15 ≤ t0 then
    fL_law_1147 sl sx k1039 l1 l2 l11 l14 l15 l16 m
    else
    some ((0 : Int32), m)
theorem vL_law_1115 {E : ml_E} (hL : ml_eL E = 22) {rv : Int32} {rm : ml_M} (hr : ∀ (pc pc' : Nat) (lv : List (Nat × ml_X)), ml_d cL_law pc .ireturn 1 pc' → (rv = 0 ∨ rv = 1) → ml_V E RL cL_law 20 false rm pc lv [ml_i rv]) {k1039 : Nat → Nat → Int32 → Int32 → Int32 → Int32 → ml_M → Option (Int32 × ml_M)} (hk1039 : ∀ (l1 : Nat) (l2 : Nat) (l11 : Int32) (l14 : Int32) (l15 : Int32) (l16 : Int32) (m : ml_M), k1039 l1 l2 l11 l14 l15 l16 m = some (rv, rm) → ml_V E RL cL_law 20 false m 1039 [(0, ml_q (ml_sb (ml_eG E))), (1, ml_r l1), (2, ml_r l2), (11, ml_i l11), (14, ml_i l14), (15, ml_i l15), (16, ml_i l16)] []) : ∀ (l1 : Nat) (l2 : Nat) (l11 : Int32) (l14 : Int32) (l15 : Int32) (l16 : Int32) (l17 : Int32) (l18 : Int32) (t0 : Int32) (m : ml_M), fL_law_1115 (ml_sl (ml_eG E)) (ml_sx (ml_eG E)) k1039 l1 l2 l11 l14 l15 l16 l17 l18 t0 m = some (rv, rm) → ml_V E RL cL_law 20 false m 1115 [(0, ml_q (ml_sb (ml_eG E))), (1, ml_r l1), (2, ml_r l2), (11, ml_i l11), (14, ml_i l14), (15, ml_i l15), (16, ml_i l16), (17, ml_i l17), (18, ml_i l18)] [ml_i t0] := by
  intro l1 l2 l11 l14 l15 l16 l17 l18 t0 m h
  unfold fL_law_1115 at h
  exact ml_istore (lv' := [(19, ml_i t0), (0, ml_q (ml_sb (ml_eG E))), (1, ml_r l1), (2, ml_r l2), (11, ml_i l11), (14, ml_i l14), (15, ml_i l15), (16, ml_i l16), (17, ml_i l17), (18, ml_i l18)]) dL_law_1115 (ml_hn hL rfl) rfl <| ml_iload dL_law_1117 8 rfl <| ml_if_lt dL_law_1119 h (fun _ h => ml_V.sub [1, 2, 3, 4, 5, 6, 7] rfl (vL_law_1147 hL hr hk1039 _ _ _ _ _ _ _ h)) (fun _ h => ml_iload dL_law_1122 9 rfl <| ml_iconst dL_law_1124 kc_i1 <| ml_icmp_ne dL_law_1125 h (fun _ h => ml_iload dL_law_1138 0 rfl <| ml_iload dL_law_1140 6 rfl <| ml_icmp_ge dL_law_1142 h (fun _ h => ml_V.sub [1, 2, 3, 4, 5, 6, 7] rfl (vL_law_1147 hL hr hk1039 _ _ _ _ _ _ _ h)) (fun _ h => ml_iconst dL_law_1145 kc_i0 <| ml_rI (mk := ml_i) hr dL_law_1146 (fun e => Or.inl e.symm) h)) (fun _ h => ml_iload dL_law_1128 0 rfl <| ml_iload dL_law_1130 5 rfl <| ml_icmp_lt dL_law_1132 h (fun _ h => ml_V.sub [1, 2, 3, 4, 5, 6, 7] rfl (vL_law_1147 hL hr hk1039 _ _ _ _ _ _ _ h)) (fun _ h => ml_V.sub [1] rfl (vL_law_1135 hL hr  _ h))))
def fL_law_1106 (sl : Nat) (sx : Nat → Int32) (k1039 : Nat → Nat → Int32 → Int32 → Int32 → Int32 → ml_M → Option (Int32 × ml_M)) (l1 : Nat) (l2 : Nat) (l11 : Int32) (l14 : Int32) (l15 : Int32) (l16 : Int32) (l17 : Int32) (l18 : Int32) (m : ml_M) : Option (Int32 × ml_M) :=
    fL_law_1115 sl sx k1039 l1 l2 l11 l14 l15 l16 l17 l18 (-9 : Int32) m
theorem vL_law_1106 {E : ml_E} (hL : ml_eL E = 22) {rv : Int32} {rm : ml_M} (hr : ∀ (pc pc' : Nat) (lv : List (Nat × ml_X)), ml_d cL_law pc .ireturn 1 pc' → (rv = 0 ∨ rv = 1) → ml_V E RL cL_law 20 false rm pc lv [ml_i rv]) {k1039 : Nat → Nat → Int32 → Int32 → Int32 → Int32 → ml_M → Option (Int32 × ml_M)} (hk1039 : ∀ (l1 : Nat) (l2 : Nat) (l11 : Int32) (l14 : Int32) (l15 : Int32) (l16 : Int32) (m : ml_M), k1039 l1 l2 l11 l14 l15 l16 m = some (rv, rm) → ml_V E RL cL_law 20 false m 1039 [(0, ml_q (ml_sb (ml_eG E))), (1, ml_r l1), (2, ml_r l2), (11, ml_i l11), (14, ml_i l14), (15, ml_i l15), (16, ml_i l16)] []) : ∀ (l1 : Nat) (l2 : Nat) (l11 : Int32) (l14 : Int32) (l15 : Int32) (l16 : Int32) (l17 : Int32) (l18 : Int32) (m : ml_M), fL_law_1106 (ml_sl (ml_eG E)) (ml_sx (ml_eG E)) k1039 l1 l2 l11 l14 l15 l16 l17 l18 m = some (rv, rm) → ml_V E RL cL_law 20 false m 1106 [(0, ml_q (ml_sb (ml_eG E))), (1, ml_r l1), (2, ml_r l2), (11, ml_i l11), (14, ml_i l14), (15, ml_i l15), (16, ml_i l16), (17, ml_i l17), (18, ml_i l18)] [] := by
  intro l1 l2 l11 l14 l15 l16 l17 l18 m h
  unfold fL_law_1106 at h
  exact ml_bipush dL_law_1106 kc_bm9 <| ml_goto dL_law_1108 <| ml_V.sub [0, 1, 2, 3, 4, 5, 6, 7, 8] rfl (vL_law_1115 hL hr hk1039 _ _ _ _ _ _ _ _ _ _ h)
def fL_law_1088 (sl : Nat) (sx : Nat → Int32) (k1039 : Nat → Nat → Int32 → Int32 → Int32 → Int32 → ml_M → Option (Int32 × ml_M)) (l1 : Nat) (l2 : Nat) (l11 : Int32) (l14 : Int32) (l15 : Int32) (l16 : Int32) (l17 : Int32) (t0 : Int32) (m : ml_M) : Option (Int32 × ml_M) :=
    if l17 < 0 then
    fL_law_1106 sl sx k1039 l1 l2 l11 l14 l15 l16 l17 t0 m
    else
    if (ml_K m l1).1 = 10 then
    ml_b2 (fX10_trunk l1 l17 (1 : Int32) m) fun r1972 m1973 =>
    if r1972 = (1 : Int32) then
    if (ml_K m1973 l1).1 = 10 then
    ml_b1 (fX10_asked l1 m1973) fun r1976 =>
    fL_law_1115 sl sx k1039 l1 l2 l11 l14 l15 l16 l17 t0 r1976 m1973
    else none
    else
    fL_law_1106 sl sx k1039 l1 l2 l11 l14 l15 l16 l17 t0 m1973
    else none
theorem vL_law_1088 {E : ml_E} (hL : ml_eL E = 22) {rv : Int32} {rm : ml_M} (hr : ∀ (pc pc' : Nat) (lv : List (Nat × ml_X)), ml_d cL_law pc .ireturn 1 pc' → (rv = 0 ∨ rv = 1) → ml_V E RL cL_law 20 false rm pc lv [ml_i rv]) {k1039 : Nat → Nat → Int32 → Int32 → Int32 → Int32 → ml_M → Option (Int32 × ml_M)} (hk1039 : ∀ (l1 : Nat) (l2 : Nat) (l11 : Int32) (l14 : Int32) (l15 : Int32) (l16 : Int32) (m : ml_M), k1039 l1 l2 l11 l14 l15 l16 m = some (rv, rm) → ml_V E RL cL_law 20 false m 1039 [(0, ml_q (ml_sb (ml_eG E))), (1, ml_r l1), (2, ml_r l2), (11, ml_i l11), (14, ml_i l14), (15, ml_i l15), (16, ml_i l16)] []) : ∀ (l1 : Nat) (l2 : Nat) (l11 : Int32) (l14 : Int32) (l15 : Int32) (l16 : Int32) (l17 : Int32) (t0 : Int32) (m : ml_M), fL_law_1088 (ml_sl (ml_eG E)) (ml_sx (ml_eG E)) k1039 l1 l2 l11 l14 l15 l16 l17 t0 m = some (rv, rm) → ml_V E RL cL_law 20 false m 1088 [(0, ml_q (ml_sb (ml_eG E))), (1, ml_r l1), (2, ml_r l2), (11, ml_i l11), (14, ml_i l14), (15, ml_i l15), (16, ml_i l16), (17, ml_i l17)] [ml_i t0] := by
  intro l1 l2 l11 l14 l15 l16 l17 t0 m h
  unfold fL_law_1088 at h
  exact ml_istore (lv' := [(18, ml_i t0), (0, ml_q (ml_sb (ml_eG E))), (1, ml_r l1), (2, ml_r l2), (11, ml_i l11), (14, ml_i l14), (15, ml_i l15), (16, ml_i l16), (17, ml_i l17)]) dL_law_1088 (ml_hn hL rfl) rfl <| ml_iload dL_law_1090 8 rfl <| ml_if_lt dL_law_1092 h (fun _ h => ml_V.sub [1, 2, 3, 4, 5, 6, 7, 8, 0] rfl (vL_law_1106 hL hr hk1039 _ _ _ _ _ _ _ _ _ h)) (fun _ h => ml_aload_n dL_law_1095 2 rfl <| ml_iload dL_law_1096 8 rfl <| ml_iconst dL_law_1098 kc_i1 <| ml_ck_of h fun hc1971 h => ml_b2_of h fun r1972 m1973 hv1970 h => ml_callV dL_law_1099 wm_527 wb_310 hc1971 (sX10_trunk hv1970) rfl (Nat.le_of_ble_eq_true rfl) (Nat.le_of_ble_eq_true rfl) rfl <| ml_iconst dL_law_1102 kc_i1 <| ml_icmp_eq dL_law_1103 h (fun _ h => ml_aload_n dL_law_1111 2 rfl <| ml_ck_of h fun hc1975 h => ml_b1_of h fun r1976 hv1974 h => ml_callV dL_law_1112 wm_179 wb_91 hc1975 (sX10_asked hv1974) rfl (Nat.le_of_ble_eq_true rfl) (Nat.le_of_ble_eq_true rfl) rfl <| ml_V.sub [1, 2, 3, 4, 5, 6, 7, 8, 0] rfl (vL_law_1115 hL hr hk1039 _ _ _ _ _ _ _ _ _ _ h)) (fun _ h => ml_V.sub [1, 2, 3, 4, 5, 6, 7, 8, 0] rfl (vL_law_1106 hL hr hk1039 _ _ _ _ _ _ _ _ _ h)))
def fL_law_1066 (sl : Nat) (sx : Nat → Int32) (k1039 : Nat → Nat → Int32 → Int32 → Int32 → Int32 → ml_M → Option (Int32 × ml_M)) (l1 : Nat) (l2 : Nat) (l11 : Int32) (l14 : Int32) (l15 : Int32) (l16 : Int32) (t0 : Int32) (m : ml_M) : Option (Int32 × ml_M) :=
    if (ml_K m l1).1 = 10 then
    ml_b2 (fX10_told l1 l16 (4 : Int32) m) fun r1979 m1980 =>
    if r1979 = (1 : Int32) then
    if (ml_K m1980 l1).1 = 10 then
    ml_b1 (fX10_asked l1 m1980) fun r1983 =>
    fL_law_1088 sl sx k1039 l1 l2 l11 l14 l15 l16 t0 r1983 m1980
    else none
    else
    fL_law_1088 sl sx k1039 l1 l2 l11 l14 l15 l16 t0 (-9 : Int32) m1980
    else none
theorem vL_law_1066 {E : ml_E} (hL : ml_eL E = 22) {rv : Int32} {rm : ml_M} (hr : ∀ (pc pc' : Nat) (lv : List (Nat × ml_X)), ml_d cL_law pc .ireturn 1 pc' → (rv = 0 ∨ rv = 1) → ml_V E RL cL_law 20 false rm pc lv [ml_i rv]) {k1039 : Nat → Nat → Int32 → Int32 → Int32 → Int32 → ml_M → Option (Int32 × ml_M)} (hk1039 : ∀ (l1 : Nat) (l2 : Nat) (l11 : Int32) (l14 : Int32) (l15 : Int32) (l16 : Int32) (m : ml_M), k1039 l1 l2 l11 l14 l15 l16 m = some (rv, rm) → ml_V E RL cL_law 20 false m 1039 [(0, ml_q (ml_sb (ml_eG E))), (1, ml_r l1), (2, ml_r l2), (11, ml_i l11), (14, ml_i l14), (15, ml_i l15), (16, ml_i l16)] []) : ∀ (l1 : Nat) (l2 : Nat) (l11 : Int32) (l14 : Int32) (l15 : Int32) (l16 : Int32) (t0 : Int32) (m : ml_M), fL_law_1066 (ml_sl (ml_eG E)) (ml_sx (ml_eG E)) k1039 l1 l2 l11 l14 l15 l16 t0 m = some (rv, rm) → ml_V E RL cL_law 20 false m 1066 [(0, ml_q (ml_sb (ml_eG E))), (1, ml_r l1), (2, ml_r l2), (11, ml_i l11), (14, ml_i l14), (15, ml_i l15), (16, ml_i l16)] [ml_i t0] := by
  intro l1 l2 l11 l14 l15 l16 t0 m h
  unfold fL_law_1066 at h
  exact ml_istore (lv' := [(17, ml_i t0), (0, ml_q (ml_sb (ml_eG E))), (1, ml_r l1), (2, ml_r l2), (11, ml_i l11), (14, ml_i l14), (15, ml_i l15), (16, ml_i l16)]) dL_law_1066 (ml_hn hL rfl) rfl <| ml_aload_n dL_law_1068 2 rfl <| ml_iload dL_law_1069 7 rfl <| ml_iconst dL_law_1071 kc_i4 <| ml_ck_of h fun hc1978 h => ml_b2_of h fun r1979 m1980 hv1977 h => ml_callV dL_law_1072 wm_523 wb_309 hc1978 (sX10_told hv1977) rfl (Nat.le_of_ble_eq_true rfl) (Nat.le_of_ble_eq_true rfl) rfl <| ml_iconst dL_law_1075 kc_i1 <| ml_icmp_ne dL_law_1076 h (fun _ h => ml_bipush dL_law_1086 kc_bm9 <| ml_V.sub [1, 2, 3, 4, 5, 6, 7, 0] rfl (vL_law_1088 hL hr hk1039 _ _ _ _ _ _ _ _ _ h)) (fun _ h => ml_aload_n dL_law_1079 2 rfl <| ml_ck_of h fun hc1982 h => ml_b1_of h fun r1983 hv1981 h => ml_callV dL_law_1080 wm_179 wb_91 hc1982 (sX10_asked hv1981) rfl (Nat.le_of_ble_eq_true rfl) (Nat.le_of_ble_eq_true rfl) rfl <| ml_goto dL_law_1083 <| ml_V.sub [1, 2, 3, 4, 5, 6, 7, 0] rfl (vL_law_1088 hL hr hk1039 _ _ _ _ _ _ _ _ _ h))
def fL_law_1153 (sl : Nat) (sx : Nat → Int32) (l1 : Nat) (l2 : Nat) (l11 : Int32) (m : ml_M) : Option (Int32 × ml_M) :=
    ml_b2 (fL_pieces sl sx l1 l2 m) fun r1985 m1986 =>
    if r1985 = 0 then
    some ((0 : Int32), m1986)
    else
    ml_b2 (fL_fewest l1 l11 m1986) fun r1988 m1989 =>
    if r1988 = 0 then
    some ((0 : Int32), m1989)
    else
    some ((1 : Int32), m1989)
theorem vL_law_1153 {E : ml_E} (hL : ml_eL E = 22) {rv : Int32} {rm : ml_M} (hr : ∀ (pc pc' : Nat) (lv : List (Nat × ml_X)), ml_d cL_law pc .ireturn 1 pc' → (rv = 0 ∨ rv = 1) → ml_V E RL cL_law 20 false rm pc lv [ml_i rv]) : ∀ (l1 : Nat) (l2 : Nat) (l11 : Int32) (m : ml_M), fL_law_1153 (ml_sl (ml_eG E)) (ml_sx (ml_eG E)) l1 l2 l11 m = some (rv, rm) → ml_V E RL cL_law 20 false m 1153 [(0, ml_q (ml_sb (ml_eG E))), (1, ml_r l1), (2, ml_r l2), (11, ml_i l11)] [] := by
  intro l1 l2 l11 m h
  unfold fL_law_1153 at h
  exact ml_aload_n dL_law_1153 1 rfl <| ml_aload_n dL_law_1154 2 rfl <| ml_sload dL_law_1155 0 rfl <| ml_b2_of h fun r1985 m1986 hv1984 h => ml_callSg dL_law_1156 wm_530 wb_311 (sL_pieces hv1984) rfl (Nat.le_of_ble_eq_true rfl) (Nat.le_of_ble_eq_true rfl) rfl <| ml_if_eq dL_law_1159 h (fun _ h => ml_iconst dL_law_1175 kc_i0 <| ml_rI (mk := ml_i) hr dL_law_1176 (fun e => Or.inl e.symm) h) (fun _ h => ml_aload_n dL_law_1162 1 rfl <| ml_iload dL_law_1163 3 rfl <| ml_b2_of h fun r1988 m1989 hv1987 h => ml_callS dL_law_1165 wm_533 wb_312 (sL_fewest hv1987) rfl (Nat.le_of_ble_eq_true rfl) (Nat.le_of_ble_eq_true rfl) rfl <| ml_if_eq dL_law_1168 h (fun _ h => ml_iconst dL_law_1175 kc_i0 <| ml_rI (mk := ml_i) hr dL_law_1176 (fun e => Or.inl e.symm) h) (fun _ h => ml_iconst dL_law_1171 kc_i1 <| ml_goto dL_law_1172 <| ml_rI (mk := ml_i) hr dL_law_1176 (fun e => Or.inr e.symm) h))
def fL_law_1039 (sl : Nat) (sx : Nat → Int32) : Nat → Nat → Nat → Int32 → Int32 → Int32 → Int32 → ml_M → Option (Int32 × ml_M)
  | 0, _, _, _, _, _, _, _ => none
  | fu + 1, l1, l2, l11, l14, l15, l16, m =>
    if l11 ≤ l16 then
    fL_law_1153 sl sx l1 l2 l11 m
    else
    if (ml_K m l1).1 = 10 then
    ml_b2 (fX10_told l1 l16 (3 : Int32) m) fun r1992 m1993 =>
    if r1992 = (1 : Int32) then
    if (ml_K m1993 l1).1 = 10 then
    ml_b1 (fX10_asked l1 m1993) fun r1996 =>
    fL_law_1066 sl sx (fL_law_1039 sl sx fu) l1 l2 l11 l14 l15 l16 r1996 m1993
    else none
    else
    fL_law_1066 sl sx (fL_law_1039 sl sx fu) l1 l2 l11 l14 l15 l16 (-9 : Int32) m1993
    else none
theorem vL_law_1039 {E : ml_E} (hL : ml_eL E = 22) {rv : Int32} {rm : ml_M} (hr : ∀ (pc pc' : Nat) (lv : List (Nat × ml_X)), ml_d cL_law pc .ireturn 1 pc' → (rv = 0 ∨ rv = 1) → ml_V E RL cL_law 20 false rm pc lv [ml_i rv]) : ∀ (fu : Nat) (l1 : Nat) (l2 : Nat) (l11 : Int32) (l14 : Int32) (l15 : Int32) (l16 : Int32) (m : ml_M), fL_law_1039 (ml_sl (ml_eG E)) (ml_sx (ml_eG E)) fu l1 l2 l11 l14 l15 l16 m = some (rv, rm) → ml_V E RL cL_law 20 false m 1039 [(0, ml_q (ml_sb (ml_eG E))), (1, ml_r l1), (2, ml_r l2), (11, ml_i l11), (14, ml_i l14), (15, ml_i l15), (16, ml_i l16)] [] := by
  intro fu
  induction fu with
  | zero => intro l1 l2 l11 l14 l15 l16 m h; exact ml_none h
  | succ fu ih =>
    intro l1 l2 l11 l14 l15 l16 m h
    have hk1039 := ih
    unfold fL_law_1039 at h
    exact ml_iload dL_law_1039 6 rfl <| ml_iload dL_law_1041 3 rfl <| ml_icmp_ge dL_law_1043 h (fun _ h => ml_V.sub [0, 1, 2, 3] rfl (vL_law_1153 hL hr  _ _ _ _ h)) (fun _ h => ml_aload_n dL_law_1046 1 rfl <| ml_iload dL_law_1047 6 rfl <| ml_iconst dL_law_1049 kc_i3 <| ml_ck_of h fun hc1991 h => ml_b2_of h fun r1992 m1993 hv1990 h => ml_callV dL_law_1050 wm_523 wb_309 hc1991 (sX10_told hv1990) rfl (Nat.le_of_ble_eq_true rfl) (Nat.le_of_ble_eq_true rfl) rfl <| ml_iconst dL_law_1053 kc_i1 <| ml_icmp_ne dL_law_1054 h (fun _ h => ml_bipush dL_law_1064 kc_bm9 <| ml_V.sub [0, 1, 2, 3, 4, 5, 6] rfl (vL_law_1066 hL hr hk1039 _ _ _ _ _ _ _ _ h)) (fun _ h => ml_aload_n dL_law_1057 1 rfl <| ml_ck_of h fun hc1995 h => ml_b1_of h fun r1996 hv1994 h => ml_callV dL_law_1058 wm_179 wb_91 hc1995 (sX10_asked hv1994) rfl (Nat.le_of_ble_eq_true rfl) (Nat.le_of_ble_eq_true rfl) rfl <| ml_goto dL_law_1061 <| ml_V.sub [0, 1, 2, 3, 4, 5, 6] rfl (vL_law_1066 hL hr hk1039 _ _ _ _ _ _ _ _ h)))
def fL_law_1019 (sl : Nat) (sx : Nat → Int32) (l1 : Nat) (l2 : Nat) (l11 : Int32) (m : ml_M) : Option (Int32 × ml_M) :=
    if (ml_K m l1).1 = 10 then
    ml_b2 (fX10_water l1 m) fun r1999 m2000 =>
    if r1999 < 0 then
    fL_law_1153 sl sx l1 l2 l11 m2000
    else
    if (ml_K m2000 l1).1 = 10 then
    ml_b1 (fX10_asked l1 m2000) fun r2003 =>
    fL_law_1039 sl sx ml_fu l1 l2 l11 r1999 r2003 (0 : Int32) m2000
    else none
    else none
theorem vL_law_1019 {E : ml_E} (hL : ml_eL E = 22) {rv : Int32} {rm : ml_M} (hr : ∀ (pc pc' : Nat) (lv : List (Nat × ml_X)), ml_d cL_law pc .ireturn 1 pc' → (rv = 0 ∨ rv = 1) → ml_V E RL cL_law 20 false rm pc lv [ml_i rv]) : ∀ (l1 : Nat) (l2 : Nat) (l11 : Int32) (m : ml_M), fL_law_1019 (ml_sl (ml_eG E)) (ml_sx (ml_eG E)) l1 l2 l11 m = some (rv, rm) → ml_V E RL cL_law 20 false m 1019 [(0, ml_q (ml_sb (ml_eG E))), (1, ml_r l1), (2, ml_r l2), (11, ml_i l11)] [] := by
  intro l1 l2 l11 m h
  unfold fL_law_1019 at h
  exact ml_aload_n dL_law_1019 1 rfl <| ml_ck_of h fun hc1998 h => ml_b2_of h fun r1999 m2000 hv1997 h => ml_callV dL_law_1020 wm_537 wb_313 hc1998 (sX10_water hv1997) rfl (Nat.le_of_ble_eq_true rfl) (Nat.le_of_ble_eq_true rfl) rfl <| ml_istore (lv' := [(14, ml_i r1999), (0, ml_q (ml_sb (ml_eG E))), (1, ml_r l1), (2, ml_r l2), (11, ml_i l11)]) dL_law_1023 (ml_hn hL rfl) rfl <| ml_iload dL_law_1025 0 rfl <| ml_if_lt dL_law_1027 h (fun _ h => ml_V.sub [1, 2, 3, 4] rfl (vL_law_1153 hL hr  _ _ _ _ h)) (fun _ h => ml_aload_n dL_law_1030 2 rfl <| ml_ck_of h fun hc2002 h => ml_b1_of h fun r2003 hv2001 h => ml_callV dL_law_1031 wm_179 wb_91 hc2002 (sX10_asked hv2001) rfl (Nat.le_of_ble_eq_true rfl) (Nat.le_of_ble_eq_true rfl) rfl <| ml_istore (lv' := [(15, ml_i r2003), (14, ml_i r1999), (0, ml_q (ml_sb (ml_eG E))), (1, ml_r l1), (2, ml_r l2), (11, ml_i l11)]) dL_law_1034 (ml_hn hL rfl) rfl <| ml_iconst dL_law_1036 kc_i0 <| ml_istore (lv' := [(16, ml_i (0 : Int32)), (15, ml_i r2003), (14, ml_i r1999), (0, ml_q (ml_sb (ml_eG E))), (1, ml_r l1), (2, ml_r l2), (11, ml_i l11)]) dL_law_1037 (ml_hn hL rfl) rfl <| ml_V.sub [3, 4, 5, 6, 2, 1, 0] rfl (vL_law_1039 hL hr  ml_fu _ _ _ _ _ _ _ h))
def fL_law_991 (sl : Nat) (sx : Nat → Int32) (l1 : Nat) (l2 : Nat) (l11 : Int32) (m : ml_M) : Option (Int32 × ml_M) :=
    if (ml_K m l1).1 = 10 then
    ml_b2 (fX10_moves l1 (0 : Int32) (2 : Int32) m) fun r2006 m2007 =>
    if r2006 = 0 then
    if (ml_K m2007 l1).1 = 10 then
    ml_b2 (fX10_share l1 (3 : Int32) m2007) fun r2010 m2011 =>
    if r2010 = 0 then
    if (ml_K m2011 l1).1 = 10 then
    ml_b2 (fX10_ways l1 (0 : Int32) m2011) fun r2014 m2015 =>
    if (1 : Int32) ≤ r2014 then
    fL_law_1019 sl sx l1 l2 l11 m2015
    else
    some ((0 : Int32), m2015)
    else none
    else
    some ((0 : Int32), m2011)
    else none
    else
    some ((0 : Int32), m2007)
    else none
theorem vL_law_991 {E : ml_E} (hL : ml_eL E = 22) {rv : Int32} {rm : ml_M} (hr : ∀ (pc pc' : Nat) (lv : List (Nat × ml_X)), ml_d cL_law pc .ireturn 1 pc' → (rv = 0 ∨ rv = 1) → ml_V E RL cL_law 20 false rm pc lv [ml_i rv]) : ∀ (l1 : Nat) (l2 : Nat) (l11 : Int32) (m : ml_M), fL_law_991 (ml_sl (ml_eG E)) (ml_sx (ml_eG E)) l1 l2 l11 m = some (rv, rm) → ml_V E RL cL_law 20 false m 991 [(0, ml_q (ml_sb (ml_eG E))), (1, ml_r l1), (2, ml_r l2), (11, ml_i l11)] [] := by
  intro l1 l2 l11 m h
  unfold fL_law_991 at h
  exact ml_aload_n dL_law_991 1 rfl <| ml_iconst dL_law_992 kc_i0 <| ml_iconst dL_law_993 kc_i2 <| ml_ck_of h fun hc2005 h => ml_b2_of h fun r2006 m2007 hv2004 h => ml_callV dL_law_994 wm_541 wb_314 hc2005 (sX10_moves hv2004) rfl (Nat.le_of_ble_eq_true rfl) (Nat.le_of_ble_eq_true rfl) rfl <| ml_if_ne dL_law_997 h (fun _ h => ml_iconst dL_law_1017 kc_i0 <| ml_rI (mk := ml_i) hr dL_law_1018 (fun e => Or.inl e.symm) h) (fun _ h => ml_aload_n dL_law_1000 1 rfl <| ml_iconst dL_law_1001 kc_i3 <| ml_ck_of h fun hc2009 h => ml_b2_of h fun r2010 m2011 hv2008 h => ml_callV dL_law_1002 wm_545 wb_315 hc2009 (sX10_share hv2008) rfl (Nat.le_of_ble_eq_true rfl) (Nat.le_of_ble_eq_true rfl) rfl <| ml_if_ne dL_law_1005 h (fun _ h => ml_iconst dL_law_1017 kc_i0 <| ml_rI (mk := ml_i) hr dL_law_1018 (fun e => Or.inl e.symm) h) (fun _ h => ml_aload_n dL_law_1008 1 rfl <| ml_iconst dL_law_1009 kc_i0 <| ml_ck_of h fun hc2013 h => ml_b2_of h fun r2014 m2015 hv2012 h => ml_callV dL_law_1010 wm_549 wb_316 hc2013 (sX10_ways hv2012) rfl (Nat.le_of_ble_eq_true rfl) (Nat.le_of_ble_eq_true rfl) rfl <| ml_iconst dL_law_1013 kc_i1 <| ml_icmp_ge dL_law_1014 h (fun _ h => ml_V.sub [0, 1, 2, 3] rfl (vL_law_1019 hL hr  _ _ _ _ h)) (fun _ h => ml_iconst dL_law_1017 kc_i0 <| ml_rI (mk := ml_i) hr dL_law_1018 (fun e => Or.inl e.symm) h)))
def fL_law_892 (sl : Nat) (sx : Nat → Int32) : Nat → Nat → Nat → Int32 → Int32 → Int32 → ml_M → Option (Int32 × ml_M)
  | 0, _, _, _, _, _, _ => none
  | fu + 1, l1, l2, l11, l12, l14, m =>
    if l12 ≤ l14 then
    fL_law_991 sl sx l1 l2 l11 m
    else
    if (ml_K m l1).1 = 10 then
    ml_b2 (fX10_at l1 (2 : Int32) ((2 : Int32) * l14) m) fun r2018 m2019 =>
    if r2018 = (1 : Int32) then
    if (ml_K m2019 l1).1 = 10 then
    ml_b1 (fX10_asked l1 m2019) fun r2022 =>
    fL_law_920 sl sx (fL_law_892 sl sx fu) l1 l2 l11 l12 l14 r2022 m2019
    else none
    else
    fL_law_920 sl sx (fL_law_892 sl sx fu) l1 l2 l11 l12 l14 (-1 : Int32) m2019
    else none
theorem vL_law_892 {E : ml_E} (hL : ml_eL E = 22) {rv : Int32} {rm : ml_M} (hr : ∀ (pc pc' : Nat) (lv : List (Nat × ml_X)), ml_d cL_law pc .ireturn 1 pc' → (rv = 0 ∨ rv = 1) → ml_V E RL cL_law 20 false rm pc lv [ml_i rv]) : ∀ (fu : Nat) (l1 : Nat) (l2 : Nat) (l11 : Int32) (l12 : Int32) (l14 : Int32) (m : ml_M), fL_law_892 (ml_sl (ml_eG E)) (ml_sx (ml_eG E)) fu l1 l2 l11 l12 l14 m = some (rv, rm) → ml_V E RL cL_law 20 false m 892 [(0, ml_q (ml_sb (ml_eG E))), (1, ml_r l1), (2, ml_r l2), (11, ml_i l11), (12, ml_i l12), (14, ml_i l14)] [] := by
  intro fu
  induction fu with
  | zero => intro l1 l2 l11 l12 l14 m h; exact ml_none h
  | succ fu ih =>
    intro l1 l2 l11 l12 l14 m h
    have hk892 := ih
    unfold fL_law_892 at h
    exact ml_iload dL_law_892 5 rfl <| ml_iload dL_law_894 4 rfl <| ml_icmp_ge dL_law_896 h (fun _ h => ml_V.sub [0, 1, 2, 3] rfl (vL_law_991 hL hr  _ _ _ _ h)) (fun _ h => ml_aload_n dL_law_899 1 rfl <| ml_iconst dL_law_900 kc_i2 <| ml_iconst dL_law_901 kc_i2 <| ml_iload dL_law_902 5 rfl <| ml_imul dL_law_904 <| ml_ck_of h fun hc2017 h => ml_b2_of h fun r2018 m2019 hv2016 h => ml_callV dL_law_905 wm_499 wb_303 hc2017 (sX10_at hv2016) rfl (Nat.le_of_ble_eq_true rfl) (Nat.le_of_ble_eq_true rfl) rfl <| ml_iconst dL_law_908 kc_i1 <| ml_icmp_ne dL_law_909 h (fun _ h => ml_iconst dL_law_919 kc_im1 <| ml_V.sub [0, 1, 2, 3, 4, 5] rfl (vL_law_920 hL hr hk892 _ _ _ _ _ _ _ h)) (fun _ h => ml_aload_n dL_law_912 1 rfl <| ml_ck_of h fun hc2021 h => ml_b1_of h fun r2022 hv2020 h => ml_callV dL_law_913 wm_179 wb_91 hc2021 (sX10_asked hv2020) rfl (Nat.le_of_ble_eq_true rfl) (Nat.le_of_ble_eq_true rfl) rfl <| ml_goto dL_law_916 <| ml_V.sub [0, 1, 2, 3, 4, 5] rfl (vL_law_920 hL hr hk892 _ _ _ _ _ _ _ h)))
def fL_law_861 (sl : Nat) (sx : Nat → Int32) (l1 : Nat) (l2 : Nat) (l11 : Int32) (l12 : Int32) (m : ml_M) : Option (Int32 × ml_M) :=
    if l12 < 0 then
    fL_law_1019 sl sx l1 l2 l11 m
    else
    if (ml_K m l1).1 = 10 then
    ml_b2 (fX10_share l1 (0 : Int32) m) fun r2025 m2026 =>
    if r2025 = l12 then
    if (ml_K m2026 l1).1 = 10 then
    ml_b2 (fX10_moves l1 (0 : Int32) (2 : Int32) m2026) fun r2029 m2030 =>
    if r2029 = l12 then
    fL_law_892 sl sx ml_fu l1 l2 l11 l12 (0 : Int32) m2030
    else
    some ((0 : Int32), m2030)
    else none
    else
    some ((0 : Int32), m2026)
    else none
theorem vL_law_861 {E : ml_E} (hL : ml_eL E = 22) {rv : Int32} {rm : ml_M} (hr : ∀ (pc pc' : Nat) (lv : List (Nat × ml_X)), ml_d cL_law pc .ireturn 1 pc' → (rv = 0 ∨ rv = 1) → ml_V E RL cL_law 20 false rm pc lv [ml_i rv]) : ∀ (l1 : Nat) (l2 : Nat) (l11 : Int32) (l12 : Int32) (m : ml_M), fL_law_861 (ml_sl (ml_eG E)) (ml_sx (ml_eG E)) l1 l2 l11 l12 m = some (rv, rm) → ml_V E RL cL_law 20 false m 861 [(0, ml_q (ml_sb (ml_eG E))), (1, ml_r l1), (2, ml_r l2), (11, ml_i l11), (12, ml_i l12)] [] := by
  intro l1 l2 l11 l12 m h
  unfold fL_law_861 at h
  exact ml_iload dL_law_861 4 rfl <| ml_if_lt dL_law_863 h (fun _ h => ml_V.sub [0, 1, 2, 3] rfl (vL_law_1019 hL hr  _ _ _ _ h)) (fun _ h => ml_aload_n dL_law_866 1 rfl <| ml_iconst dL_law_867 kc_i0 <| ml_ck_of h fun hc2024 h => ml_b2_of h fun r2025 m2026 hv2023 h => ml_callV dL_law_868 wm_545 wb_315 hc2024 (sX10_share hv2023) rfl (Nat.le_of_ble_eq_true rfl) (Nat.le_of_ble_eq_true rfl) rfl <| ml_iload dL_law_871 4 rfl <| ml_icmp_ne dL_law_873 h (fun _ h => ml_iconst dL_law_887 kc_i0 <| ml_rI (mk := ml_i) hr dL_law_888 (fun e => Or.inl e.symm) h) (fun _ h => ml_aload_n dL_law_876 1 rfl <| ml_iconst dL_law_877 kc_i0 <| ml_iconst dL_law_878 kc_i2 <| ml_ck_of h fun hc2028 h => ml_b2_of h fun r2029 m2030 hv2027 h => ml_callV dL_law_879 wm_541 wb_314 hc2028 (sX10_moves hv2027) rfl (Nat.le_of_ble_eq_true rfl) (Nat.le_of_ble_eq_true rfl) rfl <| ml_iload dL_law_882 4 rfl <| ml_icmp_eq dL_law_884 h (fun _ h => ml_iconst dL_law_889 kc_i0 <| ml_istore (lv' := [(14, ml_i (0 : Int32)), (0, ml_q (ml_sb (ml_eG E))), (1, ml_r l1), (2, ml_r l2), (11, ml_i l11), (12, ml_i l12)]) dL_law_890 (ml_hn hL rfl) rfl <| ml_V.sub [1, 2, 3, 4, 5, 0] rfl (vL_law_892 hL hr  ml_fu _ _ _ _ _ _ h)) (fun _ h => ml_iconst dL_law_887 kc_i0 <| ml_rI (mk := ml_i) hr dL_law_888 (fun e => Or.inl e.symm) h)))
def fL_law_636 (sl : Nat) (sx : Nat → Int32) : Nat → Nat → Nat → Int32 → Int32 → Int32 → Int32 → Int32 → ml_M → Option (Int32 × ml_M)
  | 0, _, _, _, _, _, _, _, _ => none
  | fu + 1, l1, l2, l9, l11, l12, l13, l14, m =>
    if l11 < l14 then
    fL_law_861 sl sx l1 l2 l11 l12 m
    else
    if (ml_K m l1).1 = 10 then
    ml_b2 (fX10_ways l1 l14 m) fun r2033 m2034 =>
    if (ml_K m2034 l1).1 = 10 then
    ml_b2 (fX10_sure l1 l14 m2034) fun r2037 m2038 =>
    if (ml_K m2038 l1).1 = 10 then
    ml_b1 (fX10_asked l1 m2038) fun r2041 =>
    ml_b2 (fX10_next l1 l14 m2038) fun r2043 m2044 =>
    if (ml_K m2044 l1).1 = 10 then
    ml_b1 (fX10_asked l1 m2044) fun r2047 =>
    if (ml_K m2044 l2).1 = 10 then
    ml_b2 (fX10_ways l2 l14 m2044) fun r2050 m2051 =>
    if r2050 = r2033 then
    if r2033 < l13 then
    some ((0 : Int32), m2051)
    else
    if r2033 ≤ 0 then
    fL_law_707 sl sx (fL_law_636 sl sx fu) l1 l2 l9 l11 l12 l14 r2033 r2037 r2041 r2043 r2047 (0 : Int32) m2051
    else
    fL_law_707 sl sx (fL_law_636 sl sx fu) l1 l2 l9 l11 l12 l14 r2033 r2037 r2041 r2043 r2047 (1 : Int32) m2051
    else
    some ((0 : Int32), m2051)
    else none
    else none
    else none
    else none
    else none
theorem vL_law_636 {E : ml_E} (hL : ml_eL E = 22) {rv : Int32} {rm : ml_M} (hr : ∀ (pc pc' : Nat) (lv : List (Nat × ml_X)), ml_d cL_law pc .ireturn 1 pc' → (rv = 0 ∨ rv = 1) → ml_V E RL cL_law 20 false rm pc lv [ml_i rv]) : ∀ (fu : Nat) (l1 : Nat) (l2 : Nat) (l9 : Int32) (l11 : Int32) (l12 : Int32) (l13 : Int32) (l14 : Int32) (m : ml_M), fL_law_636 (ml_sl (ml_eG E)) (ml_sx (ml_eG E)) fu l1 l2 l9 l11 l12 l13 l14 m = some (rv, rm) → ml_V E RL cL_law 20 false m 636 [(0, ml_q (ml_sb (ml_eG E))), (1, ml_r l1), (2, ml_r l2), (9, ml_i l9), (11, ml_i l11), (12, ml_i l12), (13, ml_i l13), (14, ml_i l14)] [] := by
  intro fu
  induction fu with
  | zero => intro l1 l2 l9 l11 l12 l13 l14 m h; exact ml_none h
  | succ fu ih =>
    intro l1 l2 l9 l11 l12 l13 l14 m h
    have hk636 := ih
    unfold fL_law_636 at h
    exact ml_iload dL_law_636 7 rfl <| ml_iload dL_law_638 4 rfl <| ml_icmp_gt dL_law_640 h (fun _ h => ml_V.sub [0, 1, 2, 4, 5] rfl (vL_law_861 hL hr  _ _ _ _ _ h)) (fun _ h => ml_aload_n dL_law_643 1 rfl <| ml_iload dL_law_644 7 rfl <| ml_ck_of h fun hc2032 h => ml_b2_of h fun r2033 m2034 hv2031 h => ml_callV dL_law_646 wm_549 wb_316 hc2032 (sX10_ways hv2031) rfl (Nat.le_of_ble_eq_true rfl) (Nat.le_of_ble_eq_true rfl) rfl <| ml_istore (lv' := [(15, ml_i r2033), (0, ml_q (ml_sb (ml_eG E))), (1, ml_r l1), (2, ml_r l2), (9, ml_i l9), (11, ml_i l11), (12, ml_i l12), (13, ml_i l13), (14, ml_i l14)]) dL_law_649 (ml_hn hL rfl) rfl <| ml_aload_n dL_law_651 2 rfl <| ml_iload dL_law_652 8 rfl <| ml_ck_of h fun hc2036 h => ml_b2_of h fun r2037 m2038 hv2035 h => ml_callV dL_law_654 wm_553 wb_317 hc2036 (sX10_sure hv2035) rfl (Nat.le_of_ble_eq_true rfl) (Nat.le_of_ble_eq_true rfl) rfl <| ml_istore (lv' := [(16, ml_i r2037), (15, ml_i r2033), (0, ml_q (ml_sb (ml_eG E))), (1, ml_r l1), (2, ml_r l2), (9, ml_i l9), (11, ml_i l11), (12, ml_i l12), (13, ml_i l13), (14, ml_i l14)]) dL_law_657 (ml_hn hL rfl) rfl <| ml_aload_n dL_law_659 3 rfl <| ml_ck_of h fun hc2040 h => ml_b1_of h fun r2041 hv2039 h => ml_callV dL_law_660 wm_179 wb_91 hc2040 (sX10_asked hv2039) rfl (Nat.le_of_ble_eq_true rfl) (Nat.le_of_ble_eq_true rfl) rfl <| ml_istore (lv' := [(17, ml_i r2041), (16, ml_i r2037), (15, ml_i r2033), (0, ml_q (ml_sb (ml_eG E))), (1, ml_r l1), (2, ml_r l2), (9, ml_i l9), (11, ml_i l11), (12, ml_i l12), (13, ml_i l13), (14, ml_i l14)]) dL_law_663 (ml_hn hL rfl) rfl <| ml_aload_n dL_law_665 4 rfl <| ml_iload dL_law_666 10 rfl <| ml_b2_of h fun r2043 m2044 hv2042 h => ml_callV dL_law_668 wm_557 wb_318 hc2040 (sX10_next hv2042) rfl (Nat.le_of_ble_eq_true rfl) (Nat.le_of_ble_eq_true rfl) rfl <| ml_istore (lv' := [(18, ml_i r2043), (17, ml_i r2041), (16, ml_i r2037), (15, ml_i r2033), (0, ml_q (ml_sb (ml_eG E))), (1, ml_r l1), (2, ml_r l2), (9, ml_i l9), (11, ml_i l11), (12, ml_i l12), (13, ml_i l13), (14, ml_i l14)]) dL_law_671 (ml_hn hL rfl) rfl <| ml_aload_n dL_law_673 5 rfl <| ml_ck_of h fun hc2046 h => ml_b1_of h fun r2047 hv2045 h => ml_callV dL_law_674 wm_179 wb_91 hc2046 (sX10_asked hv2045) rfl (Nat.le_of_ble_eq_true rfl) (Nat.le_of_ble_eq_true rfl) rfl <| ml_istore (lv' := [(19, ml_i r2047), (18, ml_i r2043), (17, ml_i r2041), (16, ml_i r2037), (15, ml_i r2033), (0, ml_q (ml_sb (ml_eG E))), (1, ml_r l1), (2, ml_r l2), (9, ml_i l9), (11, ml_i l11), (12, ml_i l12), (13, ml_i l13), (14, ml_i l14)]) dL_law_677 (ml_hn hL rfl) rfl <| ml_aload_n dL_law_679 7 rfl <| ml_iload dL_law_680 12 rfl <| ml_ck_of h fun hc2049 h => ml_b2_of h fun r2050 m2051 hv2048 h => ml_callV dL_law_682 wm_549 wb_316 hc2049 (sX10_ways hv2048) rfl (Nat.le_of_ble_eq_true rfl) (Nat.le_of_ble_eq_true rfl) rfl <| ml_iload dL_law_685 4 rfl <| ml_icmp_ne dL_law_687 h (fun _ h => ml_iconst dL_law_793 kc_i0 <| ml_rI (mk := ml_i) hr dL_law_794 (fun e => Or.inl e.symm) h) (fun _ h => ml_iload dL_law_690 4 rfl <| ml_iload dL_law_692 11 rfl <| ml_icmp_lt dL_law_694 h (fun _ h => ml_iconst dL_law_793 kc_i0 <| ml_rI (mk := ml_i) hr dL_law_794 (fun e => Or.inl e.symm) h) (fun _ h => ml_iload dL_law_697 4 rfl <| ml_if_le dL_law_699 h (fun _ h => ml_iconst dL_law_706 kc_i0 <| ml_V.sub [5, 6, 7, 8, 9, 10, 12, 4, 3, 2, 1, 0] rfl (vL_law_707 hL hr hk636 _ _ _ _ _ _ _ _ _ _ _ _ _ h)) (fun _ h => ml_iconst dL_law_702 kc_i1 <| ml_goto dL_law_703 <| ml_V.sub [5, 6, 7, 8, 9, 10, 12, 4, 3, 2, 1, 0] rfl (vL_law_707 hL hr hk636 _ _ _ _ _ _ _ _ _ _ _ _ _ h)))))
def fL_law_531 (sl : Nat) (sx : Nat → Int32) (l1 : Nat) (l2 : Nat) (l9 : Int32) (l11 : Int32) (m : ml_M) : Option (Int32 × ml_M) :=
    if (ml_K m l1).1 = 10 then
    ml_b2 (fX10_share l1 (0 : Int32) m) fun r2054 m2055 =>
    if (ml_K m2055 l2).1 = 10 then
    ml_b2 (fX10_share l2 (0 : Int32) m2055) fun r2058 m2059 =>
    if r2058 = r2054 then
    if (ml_K m2059 l1).1 = 10 then
    ml_b2 (fX10_fits l1 m2059) fun r2062 m2063 =>
    if (ml_K m2063 l2).1 = 10 then
    ml_b2 (fX10_fits l2 m2063) fun r2066 m2067 =>
    if r2062 = r2066 then
    if (ml_K m2067 l1).1 = 10 then
    ml_b1 (fX10_many l1 m2067) fun r2070 =>
    if (ml_K m2067 l2).1 = 10 then
    ml_b1 (fX10_many l2 m2067) fun r2073 =>
    if (lg_cmp r2070 r2073) = 0 then
    ml_b2 (fX10_fewest l1 m2067) fun r2075 m2076 =>
    if (ml_K m2076 l2).1 = 10 then
    ml_b2 (fX10_fewest l2 m2076) fun r2079 m2080 =>
    if r2075 = r2079 then
    if (ml_K m2080 l1).1 = 10 then
    ml_b2 (fX10_piling l1 (1 : Int32) m2080) fun r2083 m2084 =>
    if (ml_K m2084 l2).1 = 10 then
    ml_b2 (fX10_piling l2 (1 : Int32) m2084) fun r2087 m2088 =>
    if r2083 = r2087 then
    if (ml_K m2088 l1).1 = 10 then
    ml_b2 (fX10_strange l1 m2088) fun r2091 m2092 =>
    if (ml_K m2092 l2).1 = 10 then
    ml_b2 (fX10_strange l2 m2092) fun r2095 m2096 =>
    if r2091 = r2095 then
    if (ml_K m2096 l1).1 = 10 then
    ml_b2 (fX10_travellers l1 m2096) fun r2099 m2100 =>
    if (ml_K m2100 l2).1 = 10 then
    ml_b2 (fX10_travellers l2 m2100) fun r2103 m2104 =>
    if r2099 = r2103 then
    if (ml_K m2104 l1).1 = 10 then
    ml_b2 (fX10_water l1 m2104) fun r2107 m2108 =>
    if (ml_K m2108 l2).1 = 10 then
    ml_b2 (fX10_water l2 m2108) fun r2111 m2112 =>
    if r2107 = r2111 then
    fL_law_636 sl sx ml_fu l1 l2 l9 l11 r2054 (0 : Int32) (0 : Int32) m2112
    else
    some ((0 : Int32), m2112)
    else none
    else none
    else
    some ((0 : Int32), m2104)
    else none
    else none
    else
    some ((0 : Int32), m2096)
    else none
    else none
    else
    some ((0 : Int32), m2088)
    else none
    else none
    else
    some ((0 : Int32), m2080)
    else none
    else
    some ((0 : Int32), m2067)
    else none
    else none
    else
    some ((0 : Int32), m2067)
    else none
    else none
    else
    some ((0 : Int32), m2059)
    else none
    else none
theorem vL_law_531 {E : ml_E} (hL : ml_eL E = 22) {rv : Int32} {rm : ml_M} (hr : ∀ (pc pc' : Nat) (lv : List (Nat × ml_X)), ml_d cL_law pc .ireturn 1 pc' → (rv = 0 ∨ rv = 1) → ml_V E RL cL_law 20 false rm pc lv [ml_i rv]) : ∀ (l1 : Nat) (l2 : Nat) (l9 : Int32) (l11 : Int32) (m : ml_M), fL_law_531 (ml_sl (ml_eG E)) (ml_sx (ml_eG E)) l1 l2 l9 l11 m = some (rv, rm) → ml_V E RL cL_law 20 false m 531 [(0, ml_q (ml_sb (ml_eG E))), (1, ml_r l1), (2, ml_r l2), (9, ml_i l9), (11, ml_i l11)] [] := by
  intro l1 l2 l9 l11 m h
  unfold fL_law_531 at h
  exact ml_aload_n dL_law_531 1 rfl <| ml_iconst dL_law_532 kc_i0 <| ml_ck_of h fun hc2053 h => ml_b2_of h fun r2054 m2055 hv2052 h => ml_callV dL_law_533 wm_545 wb_315 hc2053 (sX10_share hv2052) rfl (Nat.le_of_ble_eq_true rfl) (Nat.le_of_ble_eq_true rfl) rfl <| ml_istore (lv' := [(12, ml_i r2054), (0, ml_q (ml_sb (ml_eG E))), (1, ml_r l1), (2, ml_r l2), (9, ml_i l9), (11, ml_i l11)]) dL_law_536 (ml_hn hL rfl) rfl <| ml_aload_n dL_law_538 3 rfl <| ml_iconst dL_law_539 kc_i0 <| ml_ck_of h fun hc2057 h => ml_b2_of h fun r2058 m2059 hv2056 h => ml_callV dL_law_540 wm_545 wb_315 hc2057 (sX10_share hv2056) rfl (Nat.le_of_ble_eq_true rfl) (Nat.le_of_ble_eq_true rfl) rfl <| ml_iload dL_law_543 0 rfl <| ml_icmp_ne dL_law_545 h (fun _ h => ml_iconst dL_law_628 kc_i0 <| ml_rI (mk := ml_i) hr dL_law_629 (fun e => Or.inl e.symm) h) (fun _ h => ml_aload_n dL_law_548 2 rfl <| ml_ck_of h fun hc2061 h => ml_b2_of h fun r2062 m2063 hv2060 h => ml_callV dL_law_549 wm_167 wb_88 hc2061 (sX10_fits hv2060) rfl (Nat.le_of_ble_eq_true rfl) (Nat.le_of_ble_eq_true rfl) rfl <| ml_aload_n dL_law_552 3 rfl <| ml_ck_of h fun hc2065 h => ml_b2_of h fun r2066 m2067 hv2064 h => ml_callV dL_law_553 wm_167 wb_88 hc2065 (sX10_fits hv2064) rfl (Nat.le_of_ble_eq_true rfl) (Nat.le_of_ble_eq_true rfl) rfl <| ml_icmp_ne dL_law_556 h (fun _ h => ml_iconst dL_law_628 kc_i0 <| ml_rI (mk := ml_i) hr dL_law_629 (fun e => Or.inl e.symm) h) (fun _ h => ml_aload_n dL_law_559 2 rfl <| ml_ck_of h fun hc2069 h => ml_b1_of h fun r2070 hv2068 h => ml_callV dL_law_560 wm_561 wb_319 hc2069 (sX10_many hv2068) rfl (Nat.le_of_ble_eq_true rfl) (Nat.le_of_ble_eq_true rfl) rfl <| ml_aload_n dL_law_563 3 rfl <| ml_ck_of h fun hc2072 h => ml_b1_of h fun r2073 hv2071 h => ml_callV dL_law_564 wm_561 wb_319 hc2072 (sX10_many hv2071) rfl (Nat.le_of_ble_eq_true rfl) (Nat.le_of_ble_eq_true rfl) rfl <| ml_lcmp dL_law_567 <| ml_if_ne dL_law_568 h (fun _ h => ml_iconst dL_law_628 kc_i0 <| ml_rI (mk := ml_i) hr dL_law_629 (fun e => Or.inl e.symm) h) (fun _ h => ml_aload_n dL_law_571 2 rfl <| ml_b2_of h fun r2075 m2076 hv2074 h => ml_callV dL_law_572 wm_175 wb_90 hc2069 (sX10_fewest hv2074) rfl (Nat.le_of_ble_eq_true rfl) (Nat.le_of_ble_eq_true rfl) rfl <| ml_aload_n dL_law_575 3 rfl <| ml_ck_of h fun hc2078 h => ml_b2_of h fun r2079 m2080 hv2077 h => ml_callV dL_law_576 wm_175 wb_90 hc2078 (sX10_fewest hv2077) rfl (Nat.le_of_ble_eq_true rfl) (Nat.le_of_ble_eq_true rfl) rfl <| ml_icmp_ne dL_law_579 h (fun _ h => ml_iconst dL_law_628 kc_i0 <| ml_rI (mk := ml_i) hr dL_law_629 (fun e => Or.inl e.symm) h) (fun _ h => ml_aload_n dL_law_582 2 rfl <| ml_iconst dL_law_583 kc_i1 <| ml_ck_of h fun hc2082 h => ml_b2_of h fun r2083 m2084 hv2081 h => ml_callV dL_law_584 wm_565 wb_320 hc2082 (sX10_piling hv2081) rfl (Nat.le_of_ble_eq_true rfl) (Nat.le_of_ble_eq_true rfl) rfl <| ml_aload_n dL_law_587 3 rfl <| ml_iconst dL_law_588 kc_i1 <| ml_ck_of h fun hc2086 h => ml_b2_of h fun r2087 m2088 hv2085 h => ml_callV dL_law_589 wm_565 wb_320 hc2086 (sX10_piling hv2085) rfl (Nat.le_of_ble_eq_true rfl) (Nat.le_of_ble_eq_true rfl) rfl <| ml_icmp_ne dL_law_592 h (fun _ h => ml_iconst dL_law_628 kc_i0 <| ml_rI (mk := ml_i) hr dL_law_629 (fun e => Or.inl e.symm) h) (fun _ h => ml_aload_n dL_law_595 2 rfl <| ml_ck_of h fun hc2090 h => ml_b2_of h fun r2091 m2092 hv2089 h => ml_callV dL_law_596 wm_569 wb_321 hc2090 (sX10_strange hv2089) rfl (Nat.le_of_ble_eq_true rfl) (Nat.le_of_ble_eq_true rfl) rfl <| ml_aload_n dL_law_599 3 rfl <| ml_ck_of h fun hc2094 h => ml_b2_of h fun r2095 m2096 hv2093 h => ml_callV dL_law_600 wm_569 wb_321 hc2094 (sX10_strange hv2093) rfl (Nat.le_of_ble_eq_true rfl) (Nat.le_of_ble_eq_true rfl) rfl <| ml_icmp_ne dL_law_603 h (fun _ h => ml_iconst dL_law_628 kc_i0 <| ml_rI (mk := ml_i) hr dL_law_629 (fun e => Or.inl e.symm) h) (fun _ h => ml_aload_n dL_law_606 2 rfl <| ml_ck_of h fun hc2098 h => ml_b2_of h fun r2099 m2100 hv2097 h => ml_callV dL_law_607 wm_573 wb_322 hc2098 (sX10_travellers hv2097) rfl (Nat.le_of_ble_eq_true rfl) (Nat.le_of_ble_eq_true rfl) rfl <| ml_aload_n dL_law_610 3 rfl <| ml_ck_of h fun hc2102 h => ml_b2_of h fun r2103 m2104 hv2101 h => ml_callV dL_law_611 wm_573 wb_322 hc2102 (sX10_travellers hv2101) rfl (Nat.le_of_ble_eq_true rfl) (Nat.le_of_ble_eq_true rfl) rfl <| ml_icmp_ne dL_law_614 h (fun _ h => ml_iconst dL_law_628 kc_i0 <| ml_rI (mk := ml_i) hr dL_law_629 (fun e => Or.inl e.symm) h) (fun _ h => ml_aload_n dL_law_617 2 rfl <| ml_ck_of h fun hc2106 h => ml_b2_of h fun r2107 m2108 hv2105 h => ml_callV dL_law_618 wm_537 wb_313 hc2106 (sX10_water hv2105) rfl (Nat.le_of_ble_eq_true rfl) (Nat.le_of_ble_eq_true rfl) rfl <| ml_aload_n dL_law_621 3 rfl <| ml_ck_of h fun hc2110 h => ml_b2_of h fun r2111 m2112 hv2109 h => ml_callV dL_law_622 wm_537 wb_313 hc2110 (sX10_water hv2109) rfl (Nat.le_of_ble_eq_true rfl) (Nat.le_of_ble_eq_true rfl) rfl <| ml_icmp_eq dL_law_625 h (fun _ h => ml_iconst dL_law_630 kc_i0 <| ml_istore (lv' := [(13, ml_i (0 : Int32)), (12, ml_i r2054), (0, ml_q (ml_sb (ml_eG E))), (1, ml_r l1), (2, ml_r l2), (9, ml_i l9), (11, ml_i l11)]) dL_law_631 (ml_hn hL rfl) rfl <| ml_iconst dL_law_633 kc_i0 <| ml_istore (lv' := [(14, ml_i (0 : Int32)), (13, ml_i (0 : Int32)), (12, ml_i r2054), (0, ml_q (ml_sb (ml_eG E))), (1, ml_r l1), (2, ml_r l2), (9, ml_i l9), (11, ml_i l11)]) dL_law_634 (ml_hn hL rfl) rfl <| ml_V.sub [3, 4, 5, 6, 7, 2, 1, 0] rfl (vL_law_636 hL hr  ml_fu _ _ _ _ _ _ _ _ h)) (fun _ h => ml_iconst dL_law_628 kc_i0 <| ml_rI (mk := ml_i) hr dL_law_629 (fun e => Or.inl e.symm) h))))))))
def fL_law_202 (sl : Nat) (sx : Nat → Int32) : Nat → Nat → Nat → Nat → Int32 → Int32 → Int32 → Int32 → ml_M → Option (Int32 × ml_M)
  | 0, _, _, _, _, _, _, _, _ => none
  | fu + 1, l1, l2, l7, l8, l9, l11, l12, m =>
    if l11 ≤ l12 then
    fL_law_531 sl sx l1 l2 l9 l11 m
    else
    ml_b2 (fL_thing sl sx l1 ((80 : Int32) + ((4 : Int32) * l12)) l8 l9 l7 l12 m) fun r2114 m2115 =>
    if r2114 = 0 then
    some ((0 : Int32), m2115)
    else
    if ml_in m2115 l7 20 ((8 : Int32) * l12) then
    ml_let (ml_I m2115 l7 ((8 : Int32) * l12).toNatClampNeg) fun x2117 =>
    if ml_in m2115 l7 20 (((8 : Int32) * l12) + (3 : Int32)) then
    ml_let (ml_I m2115 l7 (((8 : Int32) * l12) + (3 : Int32)).toNatClampNeg) fun x2119 =>
    if x2117 = (2 : Int32) then
    fL_law_268 sl sx (fL_law_202 sl sx fu) l1 l2 l7 l8 l9 l11 l12 x2117 x2119 m2115
    else
    if x2117 = (4 : Int32) then
    fL_law_268 sl sx (fL_law_202 sl sx fu) l1 l2 l7 l8 l9 l11 l12 x2117 x2119 m2115
    else
    fL_law_273 sl sx (fL_law_202 sl sx fu) l1 l2 l7 l8 l9 l11 l12 x2117 x2119 (0 : Int32) m2115
    else none
    else none
theorem vL_law_202 {E : ml_E} (hL : ml_eL E = 22) {rv : Int32} {rm : ml_M} (hr : ∀ (pc pc' : Nat) (lv : List (Nat × ml_X)), ml_d cL_law pc .ireturn 1 pc' → (rv = 0 ∨ rv = 1) → ml_V E RL cL_law 20 false rm pc lv [ml_i rv]) : ∀ (fu : Nat) (l1 : Nat) (l2 : Nat) (l7 : Nat) (l8 : Int32) (l9 : Int32) (l11 : Int32) (l12 : Int32) (m : ml_M), fL_law_202 (ml_sl (ml_eG E)) (ml_sx (ml_eG E)) fu l1 l2 l7 l8 l9 l11 l12 m = some (rv, rm) → ml_V E RL cL_law 20 false m 202 [(0, ml_q (ml_sb (ml_eG E))), (1, ml_r l1), (2, ml_r l2), (7, ml_r l7), (8, ml_i l8), (9, ml_i l9), (11, ml_i l11), (12, ml_i l12)] [] := by
  intro fu
  induction fu with
  | zero => intro l1 l2 l7 l8 l9 l11 l12 m h; exact ml_none h
  | succ fu ih =>
    intro l1 l2 l7 l8 l9 l11 l12 m h
    have hk202 := ih
    unfold fL_law_202 at h
    exact ml_iload dL_law_202 7 rfl <| ml_iload dL_law_204 6 rfl <| ml_icmp_ge dL_law_206 h (fun _ h => ml_V.sub [0, 1, 2, 5, 6] rfl (vL_law_531 hL hr  _ _ _ _ _ h)) (fun _ h => ml_aload_n dL_law_209 1 rfl <| ml_sload dL_law_210 0 rfl <| ml_bipush dL_law_211 kc_b80 <| ml_iconst dL_law_213 kc_i4 <| ml_iload dL_law_214 7 rfl <| ml_imul dL_law_216 <| ml_iadd dL_law_217 <| ml_iload dL_law_218 4 rfl <| ml_iload dL_law_220 5 rfl <| ml_aload dL_law_222 3 rfl <| ml_iload dL_law_224 7 rfl <| ml_b2_of h fun r2114 m2115 hv2113 h => ml_callSg dL_law_226 wm_576 wb_323 (sL_thing hv2113) rfl (Nat.le_of_ble_eq_true rfl) (Nat.le_of_ble_eq_true rfl) rfl <| ml_if_ne dL_law_229 h (fun _ h => ml_aload dL_law_234 3 rfl <| ml_bipush dL_law_236 kc_b8 <| ml_iload dL_law_238 7 rfl <| ml_imul dL_law_240 <| ml_ck_of h fun hi2116 h => ml_iald dL_law_241 hi2116 <| ml_lx (mk := ml_i) h fun x2117 h => ml_istore (lv' := [(13, ml_i x2117), (0, ml_q (ml_sb (ml_eG E))), (1, ml_r l1), (2, ml_r l2), (7, ml_r l7), (8, ml_i l8), (9, ml_i l9), (11, ml_i l11), (12, ml_i l12)]) dL_law_242 (ml_hn hL rfl) rfl <| ml_aload dL_law_244 4 rfl <| ml_bipush dL_law_246 kc_b8 <| ml_iload dL_law_248 8 rfl <| ml_imul dL_law_250 <| ml_iconst dL_law_251 kc_i3 <| ml_iadd dL_law_252 <| ml_ck_of h fun hi2118 h => ml_iald dL_law_253 hi2118 <| ml_lx (mk := ml_i) h fun x2119 h => ml_istore (lv' := [(14, ml_i x2119), (13, ml_i x2117), (0, ml_q (ml_sb (ml_eG E))), (1, ml_r l1), (2, ml_r l2), (7, ml_r l7), (8, ml_i l8), (9, ml_i l9), (11, ml_i l11), (12, ml_i l12)]) dL_law_254 (ml_hn hL rfl) rfl <| ml_iload dL_law_256 1 rfl <| ml_iconst dL_law_258 kc_i2 <| ml_icmp_eq dL_law_259 h (fun _ h => ml_V.sub [2, 3, 4, 5, 6, 7, 8, 9, 1, 0] rfl (vL_law_268 hL hr hk202 _ _ _ _ _ _ _ _ _ _ h)) (fun _ h => ml_iload dL_law_262 1 rfl <| ml_iconst dL_law_264 kc_i4 <| ml_icmp_ne dL_law_265 h (fun _ h => ml_iconst dL_law_272 kc_i0 <| ml_V.sub [2, 3, 4, 5, 6, 7, 8, 9, 1, 0] rfl (vL_law_273 hL hr hk202 _ _ _ _ _ _ _ _ _ _ _ h)) (fun _ h => ml_V.sub [2, 3, 4, 5, 6, 7, 8, 9, 1, 0] rfl (vL_law_268 hL hr hk202 _ _ _ _ _ _ _ _ _ _ h)))) (fun _ h => ml_iconst dL_law_232 kc_i0 <| ml_rI (mk := ml_i) hr dL_law_233 (fun e => Or.inl e.symm) h))
def fL_law_160 (sl : Nat) (sx : Nat → Int32) (l1 : Nat) (l2 : Nat) (l3 : Nat) (l4 : Nat) (l5 : Nat) (l6 : Nat) (l7 : Nat) (l8 : Int32) (l9 : Int32) (l10 : Int32) (l11 : Int32) (m : ml_M) : Option (Int32 × ml_M) :=
    ml_b2 (fL_book l1 l8 l3 l9 l5 l10 l6 m) fun r2121 m2122 =>
    if r2121 = 0 then
    some ((0 : Int32), m2122)
    else
    ml_b2 (fL_book l2 l8 l4 l9 l5 l10 l6 m2122) fun r2124 m2125 =>
    if r2124 = 0 then
    some ((0 : Int32), m2125)
    else
    fL_law_202 sl sx ml_fu l1 l2 l7 l8 l9 l11 (0 : Int32) m2125
theorem vL_law_160 {E : ml_E} (hL : ml_eL E = 22) {rv : Int32} {rm : ml_M} (hr : ∀ (pc pc' : Nat) (lv : List (Nat × ml_X)), ml_d cL_law pc .ireturn 1 pc' → (rv = 0 ∨ rv = 1) → ml_V E RL cL_law 20 false rm pc lv [ml_i rv]) : ∀ (l1 : Nat) (l2 : Nat) (l3 : Nat) (l4 : Nat) (l5 : Nat) (l6 : Nat) (l7 : Nat) (l8 : Int32) (l9 : Int32) (l10 : Int32) (l11 : Int32) (m : ml_M), fL_law_160 (ml_sl (ml_eG E)) (ml_sx (ml_eG E)) l1 l2 l3 l4 l5 l6 l7 l8 l9 l10 l11 m = some (rv, rm) → ml_V E RL cL_law 20 false m 160 [(0, ml_q (ml_sb (ml_eG E))), (1, ml_r l1), (2, ml_r l2), (3, ml_r l3), (4, ml_r l4), (5, ml_r l5), (6, ml_r l6), (7, ml_r l7), (8, ml_i l8), (9, ml_i l9), (10, ml_i l10), (11, ml_i l11)] [] := by
  intro l1 l2 l3 l4 l5 l6 l7 l8 l9 l10 l11 m h
  unfold fL_law_160 at h
  exact ml_aload_n dL_law_160 1 rfl <| ml_iload dL_law_161 8 rfl <| ml_aload_n dL_law_163 3 rfl <| ml_iload dL_law_164 9 rfl <| ml_aload dL_law_166 5 rfl <| ml_iload dL_law_168 10 rfl <| ml_aload dL_law_170 6 rfl <| ml_b2_of h fun r2121 m2122 hv2120 h => ml_callS dL_law_172 wm_579 wb_324 (sL_book hv2120) rfl (Nat.le_of_ble_eq_true rfl) (Nat.le_of_ble_eq_true rfl) rfl <| ml_if_eq dL_law_175 h (fun _ h => ml_iconst dL_law_197 kc_i0 <| ml_rI (mk := ml_i) hr dL_law_198 (fun e => Or.inl e.symm) h) (fun _ h => ml_aload_n dL_law_178 2 rfl <| ml_iload dL_law_179 8 rfl <| ml_aload dL_law_181 4 rfl <| ml_iload dL_law_183 9 rfl <| ml_aload dL_law_185 5 rfl <| ml_iload dL_law_187 10 rfl <| ml_aload dL_law_189 6 rfl <| ml_b2_of h fun r2124 m2125 hv2123 h => ml_callS dL_law_191 wm_579 wb_324 (sL_book hv2123) rfl (Nat.le_of_ble_eq_true rfl) (Nat.le_of_ble_eq_true rfl) rfl <| ml_if_ne dL_law_194 h (fun _ h => ml_iconst dL_law_199 kc_i0 <| ml_istore (lv' := [(12, ml_i (0 : Int32)), (0, ml_q (ml_sb (ml_eG E))), (1, ml_r l1), (2, ml_r l2), (3, ml_r l3), (4, ml_r l4), (5, ml_r l5), (6, ml_r l6), (7, ml_r l7), (8, ml_i l8), (9, ml_i l9), (10, ml_i l10), (11, ml_i l11)]) dL_law_200 (ml_hn hL rfl) rfl <| ml_V.sub [1, 2, 3, 8, 9, 10, 12, 0] rfl (vL_law_202 hL hr  ml_fu _ _ _ _ _ _ _ _ h)) (fun _ h => ml_iconst dL_law_197 kc_i0 <| ml_rI (mk := ml_i) hr dL_law_198 (fun e => Or.inl e.symm) h))
def fL_law_122 (sl : Nat) (sx : Nat → Int32) : Nat → Nat → Nat → Nat → Nat → Nat → Nat → Nat → Int32 → Int32 → Int32 → Int32 → Int32 → ml_M → Option (Int32 × ml_M)
  | 0, _, _, _, _, _, _, _, _, _, _, _, _, _ => none
  | fu + 1, l1, l2, l3, l4, l5, l6, l7, l8, l9, l10, l11, l12, m =>
    if ((5 : Int32) * l8) ≤ l12 then
    fL_law_160 sl sx l1 l2 l3 l4 l5 l6 l7 l8 l9 l10 l11 m
    else
    if ml_in m l3 20 (((5 : Int32) * ((l8 - (1 : Int32)) - (l12 / (5 : Int32)))) + (l12 - l12 / (5 : Int32) * (5 : Int32))) then
    if ml_in m l4 20 l12 then
    ml_let (ml_sI m l4 l12.toNatClampNeg (ml_I m l3 (((5 : Int32) * ((l8 - (1 : Int32)) - (l12 / (5 : Int32)))) + (l12 - l12 / (5 : Int32) * (5 : Int32))).toNatClampNeg)) fun m2128 =>
    (fL_law_122 sl sx fu) l1 l2 l3 l4 l5 l6 l7 l8 l9 l10 l11 (l12 + (1 : Int32)) m2128
    else none
    else none
theorem vL_law_122 {E : ml_E} (hL : ml_eL E = 22) {rv : Int32} {rm : ml_M} (hr : ∀ (pc pc' : Nat) (lv : List (Nat × ml_X)), ml_d cL_law pc .ireturn 1 pc' → (rv = 0 ∨ rv = 1) → ml_V E RL cL_law 20 false rm pc lv [ml_i rv]) : ∀ (fu : Nat) (l1 : Nat) (l2 : Nat) (l3 : Nat) (l4 : Nat) (l5 : Nat) (l6 : Nat) (l7 : Nat) (l8 : Int32) (l9 : Int32) (l10 : Int32) (l11 : Int32) (l12 : Int32) (m : ml_M), fL_law_122 (ml_sl (ml_eG E)) (ml_sx (ml_eG E)) fu l1 l2 l3 l4 l5 l6 l7 l8 l9 l10 l11 l12 m = some (rv, rm) → ml_V E RL cL_law 20 false m 122 [(0, ml_q (ml_sb (ml_eG E))), (1, ml_r l1), (2, ml_r l2), (3, ml_r l3), (4, ml_r l4), (5, ml_r l5), (6, ml_r l6), (7, ml_r l7), (8, ml_i l8), (9, ml_i l9), (10, ml_i l10), (11, ml_i l11), (12, ml_i l12)] [] := by
  intro fu
  induction fu with
  | zero => intro l1 l2 l3 l4 l5 l6 l7 l8 l9 l10 l11 l12 m h; exact ml_none h
  | succ fu ih =>
    intro l1 l2 l3 l4 l5 l6 l7 l8 l9 l10 l11 l12 m h
    have hk122 := ih
    unfold fL_law_122 at h
    exact ml_iload dL_law_122 12 rfl <| ml_iconst dL_law_124 kc_i5 <| ml_iload dL_law_125 8 rfl <| ml_imul dL_law_127 <| ml_icmp_ge dL_law_128 h (fun _ h => ml_V.sub [0, 1, 2, 3, 4, 5, 6, 7, 8, 9, 10, 11] rfl (vL_law_160 hL hr  _ _ _ _ _ _ _ _ _ _ _ _ h)) (fun _ h => ml_aload dL_law_131 4 rfl <| ml_iload dL_law_133 12 rfl <| ml_aload_n dL_law_135 3 rfl <| ml_iconst dL_law_136 kc_i5 <| ml_iload dL_law_137 8 rfl <| ml_iconst dL_law_139 kc_i1 <| ml_isub dL_law_140 <| ml_iload dL_law_141 12 rfl <| ml_iconst dL_law_143 kc_i5 <| ml_idiv dL_law_144 (by decide) <| ml_isub dL_law_145 <| ml_imul dL_law_146 <| ml_iload dL_law_147 12 rfl <| ml_iconst dL_law_149 kc_i5 <| ml_irem dL_law_150 (by decide) <| ml_iadd dL_law_151 <| ml_ck_of h fun hi2126 h => ml_iald dL_law_152 hi2126 <| ml_ck_of h fun hi2127 h => ml_iast dL_law_153 hi2127 <| ml_lt (m := m) rfl h fun m2128 em2129 h => ml_iinc (lv' := [(12, ml_i (l12 + (1 : Int32))), (0, ml_q (ml_sb (ml_eG E))), (1, ml_r l1), (2, ml_r l2), (3, ml_r l3), (4, ml_r l4), (5, ml_r l5), (6, ml_r l6), (7, ml_r l7), (8, ml_i l8), (9, ml_i l9), (10, ml_i l10), (11, ml_i l11)]) dL_law_154 12 rfl (congrArg (l12 + ·) kc_i1) (ml_hn hL rfl) rfl <| ml_goto dL_law_157 <| ml_V.sub [1, 2, 3, 4, 5, 6, 7, 8, 9, 10, 11, 12, 0] rfl (hk122 _ _ _ _ _ _ _ _ _ _ _ _ _ h))
def fL_law_100 (sl : Nat) (sx : Nat → Int32) (l1 : Nat) (l2 : Nat) (l3 : Nat) (l4 : Nat) (l5 : Nat) (l6 : Nat) (l7 : Nat) (l8 : Int32) (l9 : Int32) (l10 : Int32) (t0 : Int32) (m : ml_M) : Option (Int32 × ml_M) :=
    ml_b1 (fL_numbers sl sx (10 : Int32) l8 l9 l10 l3 l5 l6 m) fun m2131 =>
    fL_law_122 sl sx ml_fu l1 l2 l3 l4 l5 l6 l7 l8 l9 l10 t0 (0 : Int32) m2131
theorem vL_law_100 {E : ml_E} (hL : ml_eL E = 22) {rv : Int32} {rm : ml_M} (hr : ∀ (pc pc' : Nat) (lv : List (Nat × ml_X)), ml_d cL_law pc .ireturn 1 pc' → (rv = 0 ∨ rv = 1) → ml_V E RL cL_law 20 false rm pc lv [ml_i rv]) : ∀ (l1 : Nat) (l2 : Nat) (l3 : Nat) (l4 : Nat) (l5 : Nat) (l6 : Nat) (l7 : Nat) (l8 : Int32) (l9 : Int32) (l10 : Int32) (t0 : Int32) (m : ml_M), fL_law_100 (ml_sl (ml_eG E)) (ml_sx (ml_eG E)) l1 l2 l3 l4 l5 l6 l7 l8 l9 l10 t0 m = some (rv, rm) → ml_V E RL cL_law 20 false m 100 [(0, ml_q (ml_sb (ml_eG E))), (1, ml_r l1), (2, ml_r l2), (3, ml_r l3), (4, ml_r l4), (5, ml_r l5), (6, ml_r l6), (7, ml_r l7), (8, ml_i l8), (9, ml_i l9), (10, ml_i l10)] [ml_i t0] := by
  intro l1 l2 l3 l4 l5 l6 l7 l8 l9 l10 t0 m h
  unfold fL_law_100 at h
  exact ml_istore (lv' := [(11, ml_i t0), (0, ml_q (ml_sb (ml_eG E))), (1, ml_r l1), (2, ml_r l2), (3, ml_r l3), (4, ml_r l4), (5, ml_r l5), (6, ml_r l6), (7, ml_r l7), (8, ml_i l8), (9, ml_i l9), (10, ml_i l10)]) dL_law_100 (ml_hn hL rfl) rfl <| ml_sload dL_law_102 1 rfl <| ml_bipush dL_law_103 kc_b10 <| ml_iload dL_law_105 9 rfl <| ml_iload dL_law_107 10 rfl <| ml_iload dL_law_109 11 rfl <| ml_aload_n dL_law_111 4 rfl <| ml_aload dL_law_112 6 rfl <| ml_aload dL_law_114 7 rfl <| ml_b1_of h fun m2131 hv2130 h => ml_callSg dL_law_116 wm_582 wb_325 (sL_numbers hv2130) rfl (Nat.le_of_ble_eq_true rfl) (Nat.le_of_ble_eq_true rfl) rfl <| ml_iconst dL_law_119 kc_i0 <| ml_istore (lv' := [(12, ml_i (0 : Int32)), (11, ml_i t0), (0, ml_q (ml_sb (ml_eG E))), (1, ml_r l1), (2, ml_r l2), (3, ml_r l3), (4, ml_r l4), (5, ml_r l5), (6, ml_r l6), (7, ml_r l7), (8, ml_i l8), (9, ml_i l9), (10, ml_i l10)]) dL_law_120 (ml_hn hL rfl) rfl <| ml_V.sub [2, 3, 4, 5, 6, 7, 8, 9, 10, 11, 12, 1, 0] rfl (vL_law_122 hL hr  ml_fu _ _ _ _ _ _ _ _ _ _ _ _ _ h)
def fL_law (sl : Nat) (sx : Nat → Int32) (m : ml_M) : Option (Int32 × ml_M) :=
    ml_let (ml_n m + 1) fun a2132 =>
    ml_let (ml_al m 10 0 19) fun m2133 =>
    ml_b1 (fX10_init a2132 m2133) fun m2137 =>
    ml_let (ml_n m2137 + 1) fun a2138 =>
    ml_let (ml_al m2137 10 0 19) fun m2139 =>
    ml_b1 (fX10_init a2138 m2139) fun m2143 =>
    ml_let (ml_n m2143 + 1) fun a2144 =>
    ml_let (ml_al m2143 20 (64 : Int32).toNatClampNeg (64 : Int32).toNatClampNeg) fun m2145 =>
    ml_let (ml_n m2145 + 1) fun a2148 =>
    ml_let (ml_al m2145 20 (64 : Int32).toNatClampNeg (64 : Int32).toNatClampNeg) fun m2149 =>
    ml_let (ml_n m2149 + 1) fun a2152 =>
    ml_let (ml_al m2149 20 (16 : Int32).toNatClampNeg (16 : Int32).toNatClampNeg) fun m2153 =>
    ml_let (ml_n m2153 + 1) fun a2156 =>
    ml_let (ml_al m2153 20 (32 : Int32).toNatClampNeg (32 : Int32).toNatClampNeg) fun m2157 =>
    ml_let (ml_n m2157 + 1) fun a2160 =>
    ml_let (ml_al m2157 20 (64 : Int32).toNatClampNeg (64 : Int32).toNatClampNeg) fun m2161 =>
    ml_b1 (fL_cell sl sx (0 : Int32) m2161) fun r2165 =>
    ml_let ((2 : Int32) + (r2165 - r2165 / (4 : Int32) * (4 : Int32))) fun x2166 =>
    ml_b1 (fL_cell sl sx (1 : Int32) m2161) fun r2168 =>
    ml_let ((2 : Int32) + (r2168 - r2168 / (3 : Int32) * (3 : Int32))) fun x2169 =>
    ml_b1 (fL_cell sl sx (2 : Int32) m2161) fun r2171 =>
    ml_let (r2171 - r2171 / (3 : Int32) * (3 : Int32)) fun x2172 =>
    ml_b1 (fL_cell sl sx (3 : Int32) m2161) fun r2174 =>
    ml_let (r2174 - r2174 / (9 : Int32) * (9 : Int32)) fun x2175 =>
    if x2175 ≤ (7 : Int32) then
    fL_law_100 sl sx a2132 a2138 a2144 a2148 a2152 a2156 a2160 x2166 x2169 x2172 x2175 m2161
    else
    fL_law_100 sl sx a2132 a2138 a2144 a2148 a2152 a2156 a2160 x2166 x2169 x2172 (7 : Int32) m2161
theorem wL_law_0 {E : ml_E} (hL : ml_eL E = 22) {rv : Int32} {rm : ml_M} (hr : ∀ (pc pc' : Nat) (lv : List (Nat × ml_X)), ml_d cL_law pc .ireturn 1 pc' → (rv = 0 ∨ rv = 1) → ml_V E RL cL_law 20 false rm pc lv [ml_i rv]) : ∀  (m : ml_M), fL_law (ml_sl (ml_eG E)) (ml_sx (ml_eG E))  m = some (rv, rm) → ml_V E RL cL_law 20 false m 0 [(0, ml_q (ml_sb (ml_eG E)))] [] := by
  intro  m h
  unfold fL_law at h
  exact ml_newOs dL_law_0 wb_326 h fun a2132 m2133 hn2134 hc2135 h => ml_dup dL_law_3 rfl <| ml_b1_of h fun m2137 hv2136 h => ml_callI dL_law_4 wm_587 wb_327 hn2134 (sX10_init hv2136) rfl (Nat.le_of_ble_eq_true rfl) (Nat.le_of_ble_eq_true rfl) rfl <| ml_astore_n (lv' := [(1, ml_r a2132), (0, ml_q (ml_sb (ml_eG E)))]) dL_law_7 (ml_hn hL rfl) rfl <| ml_newOs dL_law_8 wb_326 h fun a2138 m2139 hn2140 hc2141 h => ml_dup dL_law_11 rfl <| ml_b1_of h fun m2143 hv2142 h => ml_callI dL_law_12 wm_587 wb_327 hn2140 (sX10_init hv2142) rfl (Nat.le_of_ble_eq_true rfl) (Nat.le_of_ble_eq_true rfl) rfl <| ml_astore_n (lv' := [(2, ml_r a2138), (1, ml_r a2132), (0, ml_q (ml_sb (ml_eG E)))]) dL_law_15 (ml_hn hL rfl) rfl <| ml_bipush dL_law_16 kc_b64 <| ml_newAs (kd := 20) dL_law_18 wb_0 (by decide) h fun a2144 m2145 hn2146 hc2147 h => ml_astore_n (lv' := [(3, ml_r a2144), (2, ml_r a2138), (1, ml_r a2132), (0, ml_q (ml_sb (ml_eG E)))]) dL_law_20 (ml_hn hL rfl) rfl <| ml_bipush dL_law_21 kc_b64 <| ml_newAs (kd := 20) dL_law_23 wb_0 (by decide) h fun a2148 m2149 hn2150 hc2151 h => ml_astore (lv' := [(4, ml_r a2148), (3, ml_r a2144), (2, ml_r a2138), (1, ml_r a2132), (0, ml_q (ml_sb (ml_eG E)))]) dL_law_25 (ml_hn hL rfl) rfl <| ml_bipush dL_law_27 kc_b16 <| ml_newAs (kd := 20) dL_law_29 wb_0 (by decide) h fun a2152 m2153 hn2154 hc2155 h => ml_astore (lv' := [(5, ml_r a2152), (4, ml_r a2148), (3, ml_r a2144), (2, ml_r a2138), (1, ml_r a2132), (0, ml_q (ml_sb (ml_eG E)))]) dL_law_31 (ml_hn hL rfl) rfl <| ml_bipush dL_law_33 kc_b32 <| ml_newAs (kd := 20) dL_law_35 wb_0 (by decide) h fun a2156 m2157 hn2158 hc2159 h => ml_astore (lv' := [(6, ml_r a2156), (5, ml_r a2152), (4, ml_r a2148), (3, ml_r a2144), (2, ml_r a2138), (1, ml_r a2132), (0, ml_q (ml_sb (ml_eG E)))]) dL_law_37 (ml_hn hL rfl) rfl <| ml_bipush dL_law_39 kc_b64 <| ml_newAs (kd := 20) dL_law_41 wb_0 (by decide) h fun a2160 m2161 hn2162 hc2163 h => ml_astore (lv' := [(7, ml_r a2160), (6, ml_r a2156), (5, ml_r a2152), (4, ml_r a2148), (3, ml_r a2144), (2, ml_r a2138), (1, ml_r a2132), (0, ml_q (ml_sb (ml_eG E)))]) dL_law_43 (ml_hn hL rfl) rfl <| ml_iconst dL_law_45 kc_i2 <| ml_sload dL_law_46 7 rfl <| ml_iconst dL_law_47 kc_i0 <| ml_b1_of h fun r2165 hv2164 h => ml_callSg dL_law_48 wm_234 wb_141 (sL_cell hv2164) rfl (Nat.le_of_ble_eq_true rfl) (Nat.le_of_ble_eq_true rfl) rfl <| ml_iconst dL_law_51 kc_i4 <| ml_irem dL_law_52 (by decide) <| ml_iadd dL_law_53 <| ml_lx (mk := ml_i) h fun x2166 h => ml_istore (lv' := [(8, ml_i x2166), (7, ml_r a2160), (6, ml_r a2156), (5, ml_r a2152), (4, ml_r a2148), (3, ml_r a2144), (2, ml_r a2138), (1, ml_r a2132), (0, ml_q (ml_sb (ml_eG E)))]) dL_law_54 (ml_hn hL rfl) rfl <| ml_iconst dL_law_56 kc_i2 <| ml_sload dL_law_57 8 rfl <| ml_iconst dL_law_58 kc_i1 <| ml_b1_of h fun r2168 hv2167 h => ml_callSg dL_law_59 wm_234 wb_141 (sL_cell hv2167) rfl (Nat.le_of_ble_eq_true rfl) (Nat.le_of_ble_eq_true rfl) rfl <| ml_iconst dL_law_62 kc_i3 <| ml_irem dL_law_63 (by decide) <| ml_iadd dL_law_64 <| ml_lx (mk := ml_i) h fun x2169 h => ml_istore (lv' := [(9, ml_i x2169), (8, ml_i x2166), (7, ml_r a2160), (6, ml_r a2156), (5, ml_r a2152), (4, ml_r a2148), (3, ml_r a2144), (2, ml_r a2138), (1, ml_r a2132), (0, ml_q (ml_sb (ml_eG E)))]) dL_law_65 (ml_hn hL rfl) rfl <| ml_sload dL_law_67 9 rfl <| ml_iconst dL_law_68 kc_i2 <| ml_b1_of h fun r2171 hv2170 h => ml_callSg dL_law_69 wm_234 wb_141 (sL_cell hv2170) rfl (Nat.le_of_ble_eq_true rfl) (Nat.le_of_ble_eq_true rfl) rfl <| ml_iconst dL_law_72 kc_i3 <| ml_irem dL_law_73 (by decide) <| ml_lx (mk := ml_i) h fun x2172 h => ml_istore (lv' := [(10, ml_i x2172), (9, ml_i x2169), (8, ml_i x2166), (7, ml_r a2160), (6, ml_r a2156), (5, ml_r a2152), (4, ml_r a2148), (3, ml_r a2144), (2, ml_r a2138), (1, ml_r a2132), (0, ml_q (ml_sb (ml_eG E)))]) dL_law_74 (ml_hn hL rfl) rfl <| ml_sload dL_law_76 10 rfl <| ml_iconst dL_law_77 kc_i3 <| ml_b1_of h fun r2174 hv2173 h => ml_callSg dL_law_78 wm_234 wb_141 (sL_cell hv2173) rfl (Nat.le_of_ble_eq_true rfl) (Nat.le_of_ble_eq_true rfl) rfl <| ml_bipush dL_law_81 kc_b9 <| ml_irem dL_law_83 (by decide) <| ml_lx (mk := ml_i) h fun x2175 h => ml_istore (lv' := [(11, ml_i x2175), (10, ml_i x2172), (9, ml_i x2169), (8, ml_i x2166), (7, ml_r a2160), (6, ml_r a2156), (5, ml_r a2152), (4, ml_r a2148), (3, ml_r a2144), (2, ml_r a2138), (1, ml_r a2132), (0, ml_q (ml_sb (ml_eG E)))]) dL_law_84 (ml_hn hL rfl) rfl <| ml_iload dL_law_86 0 rfl <| ml_bipush dL_law_88 kc_b7 <| ml_icmp_le dL_law_90 h (fun _ h => ml_iload dL_law_98 0 rfl <| ml_V.sub [11, 10, 9, 8, 7, 6, 5, 4, 3, 2, 1] rfl (vL_law_100 hL hr  _ _ _ _ _ _ _ _ _ _ _ _ h)) (fun _ h => ml_bipush dL_law_93 kc_b7 <| ml_goto dL_law_95 <| ml_V.sub [11, 10, 9, 8, 7, 6, 5, 4, 3, 2, 1] rfl (vL_law_100 hL hr  _ _ _ _ _ _ _ _ _ _ _ _ h))
