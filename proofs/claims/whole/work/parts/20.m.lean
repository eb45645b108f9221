-- BenchTimesModel.slow
theorem dX11_slow_0 : di cX11_slow 0 (.iload_n 1) 1 1 := ⟨by decide +kernel, rfl⟩
theorem dX11_slow_1 : di cX11_slow 1 (.invokestatic 217) 3 4 := ⟨by decide +kernel, rfl⟩
theorem dX11_slow_4 : dj cX11_slow 4 (.ifCond .eq) 7 15 := ⟨11, by decide +kernel, rfl, rfl⟩
theorem dX11_slow_7 : di cX11_slow 7 (.aload_n 0) 1 8 := ⟨by decide +kernel, rfl⟩
theorem dX11_slow_8 : di cX11_slow 8 (.iload_n 2) 1 9 := ⟨by decide +kernel, rfl⟩
theorem dX11_slow_9 : di cX11_slow 9 (.invokevirtual 176) 3 12 := ⟨by decide +kernel, rfl⟩
theorem dX11_slow_12 : dj cX11_slow 12 (.ifCond .ne) 15 21 := ⟨9, by decide +kernel, rfl, rfl⟩
theorem dX11_slow_15 : di cX11_slow 15 (.aload_n 0) 1 16 := ⟨by decide +kernel, rfl⟩
theorem dX11_slow_16 : di cX11_slow 16 (.iconst 1) 1 17 := ⟨by decide +kernel, rfl⟩
theorem dX11_slow_17 : di cX11_slow 17 (.invokevirtual 137) 3 20 := ⟨by decide +kernel, rfl⟩
theorem dX11_slow_20 : di cX11_slow 20 (.ireturn) 1 21 := ⟨by decide +kernel, rfl⟩
theorem dX11_slow_21 : di cX11_slow 21 (.iconst 0) 1 22 := ⟨by decide +kernel, rfl⟩
theorem dX11_slow_22 : di cX11_slow 22 (.istore_n 3) 1 23 := ⟨by decide +kernel, rfl⟩
theorem dX11_slow_23 : di cX11_slow 23 (.iconst 0) 1 24 := ⟨by decide +kernel, rfl⟩
theorem dX11_slow_24 : di cX11_slow 24 (.istore 4) 2 26 := ⟨by decide +kernel, rfl⟩
theorem dX11_slow_26 : di cX11_slow 26 (.iconst 0) 1 27 := ⟨by decide +kernel, rfl⟩
theorem dX11_slow_27 : di cX11_slow 27 (.istore 5) 2 29 := ⟨by decide +kernel, rfl⟩
theorem dX11_slow_29 : di cX11_slow 29 (.iload 5) 2 31 := ⟨by decide +kernel, rfl⟩
theorem dX11_slow_31 : di cX11_slow 31 (.aload_n 0) 1 32 := ⟨by decide +kernel, rfl⟩
theorem dX11_slow_32 : di cX11_slow 32 (.getfield 221) 3 35 := ⟨by decide +kernel, rfl⟩
theorem dX11_slow_35 : dj cX11_slow 35 (.if_icmp .ge) 38 131 := ⟨96, by decide +kernel, rfl, rfl⟩
theorem dX11_slow_38 : di cX11_slow 38 (.aload_n 0) 1 39 := ⟨by decide +kernel, rfl⟩
theorem dX11_slow_39 : di cX11_slow 39 (.getfield 69) 3 42 := ⟨by decide +kernel, rfl⟩
theorem dX11_slow_42 : di cX11_slow 42 (.iload 5) 2 44 := ⟨by decide +kernel, rfl⟩
theorem dX11_slow_44 : di cX11_slow 44 (.iaload) 1 45 := ⟨by decide +kernel, rfl⟩
theorem dX11_slow_45 : di cX11_slow 45 (.iload_n 1) 1 46 := ⟨by decide +kernel, rfl⟩
theorem dX11_slow_46 : dj cX11_slow 46 (.if_icmp .ne) 49 125 := ⟨79, by decide +kernel, rfl, rfl⟩
theorem dX11_slow_49 : di cX11_slow 49 (.aload_n 0) 1 50 := ⟨by decide +kernel, rfl⟩
theorem dX11_slow_50 : di cX11_slow 50 (.getfield 72) 3 53 := ⟨by decide +kernel, rfl⟩
theorem dX11_slow_53 : di cX11_slow 53 (.iload 5) 2 55 := ⟨by decide +kernel, rfl⟩
theorem dX11_slow_55 : di cX11_slow 55 (.iaload) 1 56 := ⟨by decide +kernel, rfl⟩
theorem dX11_slow_56 : di cX11_slow 56 (.iload_n 2) 1 57 := ⟨by decide +kernel, rfl⟩
theorem dX11_slow_57 : dj cX11_slow 57 (.if_icmp .ne) 60 125 := ⟨68, by decide +kernel, rfl, rfl⟩
theorem dX11_slow_60 : di cX11_slow 60 (.aload_n 0) 1 61 := ⟨by decide +kernel, rfl⟩
theorem dX11_slow_61 : di cX11_slow 61 (.getfield 75) 3 64 := ⟨by decide +kernel, rfl⟩
theorem dX11_slow_64 : di cX11_slow 64 (.iload 5) 2 66 := ⟨by decide +kernel, rfl⟩
theorem dX11_slow_66 : di cX11_slow 66 (.iaload) 1 67 := ⟨by decide +kernel, rfl⟩
theorem dX11_slow_67 : dj cX11_slow 67 (.ifCond .le) 70 125 := ⟨58, by decide +kernel, rfl, rfl⟩
theorem dX11_slow_70 : di cX11_slow 70 (.iload_n 3) 1 71 := ⟨by decide +kernel, rfl⟩
theorem dX11_slow_71 : di cX11_slow 71 (.bipush 14) 2 73 := ⟨by decide +kernel, rfl⟩
theorem dX11_slow_73 : dj cX11_slow 73 (.if_icmp .ge) 76 125 := ⟨52, by decide +kernel, rfl, rfl⟩
theorem dX11_slow_76 : di cX11_slow 76 (.aload_n 0) 1 77 := ⟨by decide +kernel, rfl⟩
theorem dX11_slow_77 : di cX11_slow 77 (.getfield 120) 3 80 := ⟨by decide +kernel, rfl⟩
theorem dX11_slow_80 : di cX11_slow 80 (.iload_n 3) 1 81 := ⟨by decide +kernel, rfl⟩
theorem dX11_slow_81 : di cX11_slow 81 (.aload_n 0) 1 82 := ⟨by decide +kernel, rfl⟩
theorem dX11_slow_82 : di cX11_slow 82 (.getfield 81) 3 85 := ⟨by decide +kernel, rfl⟩
theorem dX11_slow_85 : di cX11_slow 85 (.iload 5) 2 87 := ⟨by decide +kernel, rfl⟩
theorem dX11_slow_87 : di cX11_slow 87 (.iaload) 1 88 := ⟨by decide +kernel, rfl⟩
theorem dX11_slow_88 : di cX11_slow 88 (.bipush 100) 2 90 := ⟨by decide +kernel, rfl⟩
theorem dX11_slow_90 : di cX11_slow 90 (.imul) 1 91 := ⟨by decide +kernel, rfl⟩
theorem dX11_slow_91 : di cX11_slow 91 (.aload_n 0) 1 92 := ⟨by decide +kernel, rfl⟩
theorem dX11_slow_92 : di cX11_slow 92 (.getfield 75) 3 95 := ⟨by decide +kernel, rfl⟩
theorem dX11_slow_95 : di cX11_slow 95 (.iload 5) 2 97 := ⟨by decide +kernel, rfl⟩
theorem dX11_slow_97 : di cX11_slow 97 (.iaload) 1 98 := ⟨by decide +kernel, rfl⟩
theorem dX11_slow_98 : di cX11_slow 98 (.idiv) 1 99 := ⟨by decide +kernel, rfl⟩
theorem dX11_slow_99 : di cX11_slow 99 (.iastore) 1 100 := ⟨by decide +kernel, rfl⟩
theorem dX11_slow_100 : di cX11_slow 100 (.iload 4) 2 102 := ⟨by decide +kernel, rfl⟩
theorem dX11_slow_102 : di cX11_slow 102 (.aload_n 0) 1 103 := ⟨by decide +kernel, rfl⟩
theorem dX11_slow_103 : di cX11_slow 103 (.getfield 84) 3 106 := ⟨by decide +kernel, rfl⟩
theorem dX11_slow_106 : di cX11_slow 106 (.iload 5) 2 108 := ⟨by decide +kernel, rfl⟩
theorem dX11_slow_108 : di cX11_slow 108 (.baload) 1 109 := ⟨by decide +kernel, rfl⟩
theorem dX11_slow_109 : dj cX11_slow 109 (.ifCond .eq) 112 118 := ⟨9, by decide +kernel, rfl, rfl⟩
theorem dX11_slow_112 : di cX11_slow 112 (.iconst 1) 1 113 := ⟨by decide +kernel, rfl⟩
theorem dX11_slow_113 : di cX11_slow 113 (.iload_n 3) 1 114 := ⟨by decide +kernel, rfl⟩
theorem dX11_slow_114 : di cX11_slow 114 (.ishl) 1 115 := ⟨by decide +kernel, rfl⟩
theorem dX11_slow_115 : dj cX11_slow 115 .goto 118 119 := ⟨4, by decide +kernel, rfl, rfl⟩
theorem dX11_slow_118 : di cX11_slow 118 (.iconst 0) 1 119 := ⟨by decide +kernel, rfl⟩
theorem dX11_slow_119 : di cX11_slow 119 (.ior) 1 120 := ⟨by decide +kernel, rfl⟩
theorem dX11_slow_120 : di cX11_slow 120 (.istore 4) 2 122 := ⟨by decide +kernel, rfl⟩
theorem dX11_slow_122 : di cX11_slow 122 (.iinc 3 1) 3 125 := ⟨by decide +kernel, rfl⟩
theorem dX11_slow_125 : di cX11_slow 125 (.iinc 5 1) 3 128 := ⟨by decide +kernel, rfl⟩
theorem dX11_slow_128 : dj cX11_slow 128 .goto 131 29 := ⟨-99, by decide +kernel, rfl, rfl⟩
theorem dX11_slow_131 : di cX11_slow 131 (.iload 4) 2 133 := ⟨by decide +kernel, rfl⟩
theorem dX11_slow_133 : di cX11_slow 133 (.invokestatic 238) 3 136 := ⟨by decide +kernel, rfl⟩
theorem dX11_slow_136 : di cX11_slow 136 (.istore 5) 2 138 := ⟨by decide +kernel, rfl⟩
theorem dX11_slow_138 : di cX11_slow 138 (.iload 5) 2 140 := ⟨by decide +kernel, rfl⟩
theorem dX11_slow_140 : dj cX11_slow 140 (.ifCond .eq) 143 149 := ⟨9, by decide +kernel, rfl, rfl⟩
theorem dX11_slow_143 : di cX11_slow 143 (.iload 5) 2 145 := ⟨by decide +kernel, rfl⟩
theorem dX11_slow_145 : di cX11_slow 145 (.iload_n 3) 1 146 := ⟨by decide +kernel, rfl⟩
theorem dX11_slow_146 : dj cX11_slow 146 (.if_icmp .ne) 149 155 := ⟨9, by decide +kernel, rfl, rfl⟩
theorem dX11_slow_149 : di cX11_slow 149 (.aload_n 0) 1 150 := ⟨by decide +kernel, rfl⟩
theorem dX11_slow_150 : di cX11_slow 150 (.iconst 2) 1 151 := ⟨by decide +kernel, rfl⟩
theorem dX11_slow_151 : di cX11_slow 151 (.invokevirtual 137) 3 154 := ⟨by decide +kernel, rfl⟩
theorem dX11_slow_154 : di cX11_slow 154 (.ireturn) 1 155 := ⟨by decide +kernel, rfl⟩
theorem dX11_slow_155 : di cX11_slow 155 (.iconst 0) 1 156 := ⟨by decide +kernel, rfl⟩
theorem dX11_slow_156 : di cX11_slow 156 (.istore 6) 2 158 := ⟨by decide +kernel, rfl⟩
theorem dX11_slow_158 : di cX11_slow 158 (.iconst 0) 1 159 := ⟨by decide +kernel, rfl⟩
theorem dX11_slow_159 : di cX11_slow 159 (.istore 7) 2 161 := ⟨by decide +kernel, rfl⟩
theorem dX11_slow_161 : di cX11_slow 161 (.iload 7) 2 163 := ⟨by decide +kernel, rfl⟩
theorem dX11_slow_163 : di cX11_slow 163 (.iload_n 3) 1 164 := ⟨by decide +kernel, rfl⟩
theorem dX11_slow_164 : dj cX11_slow 164 (.if_icmp .ge) 167 283 := ⟨119, by decide +kernel, rfl, rfl⟩
theorem dX11_slow_167 : di cX11_slow 167 (.aload_n 0) 1 168 := ⟨by decide +kernel, rfl⟩
theorem dX11_slow_168 : di cX11_slow 168 (.getfield 123) 3 171 := ⟨by decide +kernel, rfl⟩
theorem dX11_slow_171 : di cX11_slow 171 (.iload 7) 2 173 := ⟨by decide +kernel, rfl⟩
theorem dX11_slow_173 : di cX11_slow 173 (.iconst 0) 1 174 := ⟨by decide +kernel, rfl⟩
theorem dX11_slow_174 : di cX11_slow 174 (.iastore) 1 175 := ⟨by decide +kernel, rfl⟩
theorem dX11_slow_175 : di cX11_slow 175 (.iconst 0) 1 176 := ⟨by decide +kernel, rfl⟩
theorem dX11_slow_176 : di cX11_slow 176 (.istore 8) 2 178 := ⟨by decide +kernel, rfl⟩
theorem dX11_slow_178 : di cX11_slow 178 (.iload 8) 2 180 := ⟨by decide +kernel, rfl⟩
theorem dX11_slow_180 : di cX11_slow 180 (.iload_n 3) 1 181 := ⟨by decide +kernel, rfl⟩
theorem dX11_slow_181 : dj cX11_slow 181 (.if_icmp .ge) 184 250 := ⟨69, by decide +kernel, rfl, rfl⟩
theorem dX11_slow_184 : di cX11_slow 184 (.aload_n 0) 1 185 := ⟨by decide +kernel, rfl⟩
theorem dX11_slow_185 : di cX11_slow 185 (.getfield 123) 3 188 := ⟨by decide +kernel, rfl⟩
theorem dX11_slow_188 : di cX11_slow 188 (.iload 7) 2 190 := ⟨by decide +kernel, rfl⟩
theorem dX11_slow_190 : di cX11_slow 190 (.dup2) 1 191 := ⟨by decide +kernel, rfl⟩
theorem dX11_slow_191 : di cX11_slow 191 (.iaload) 1 192 := ⟨by decide +kernel, rfl⟩
theorem dX11_slow_192 : di cX11_slow 192 (.aload_n 0) 1 193 := ⟨by decide +kernel, rfl⟩
theorem dX11_slow_193 : di cX11_slow 193 (.getfield 120) 3 196 := ⟨by decide +kernel, rfl⟩
theorem dX11_slow_196 : di cX11_slow 196 (.iload 8) 2 198 := ⟨by decide +kernel, rfl⟩
theorem dX11_slow_198 : di cX11_slow 198 (.iaload) 1 199 := ⟨by decide +kernel, rfl⟩
theorem dX11_slow_199 : di cX11_slow 199 (.aload_n 0) 1 200 := ⟨by decide +kernel, rfl⟩
theorem dX11_slow_200 : di cX11_slow 200 (.getfield 120) 3 203 := ⟨by decide +kernel, rfl⟩
theorem dX11_slow_203 : di cX11_slow 203 (.iload 7) 2 205 := ⟨by decide +kernel, rfl⟩
theorem dX11_slow_205 : di cX11_slow 205 (.iaload) 1 206 := ⟨by decide +kernel, rfl⟩
theorem dX11_slow_206 : dj cX11_slow 206 (.if_icmp .ge) 209 213 := ⟨7, by decide +kernel, rfl, rfl⟩
theorem dX11_slow_209 : di cX11_slow 209 (.iconst 2) 1 210 := ⟨by decide +kernel, rfl⟩
theorem dX11_slow_210 : dj cX11_slow 210 .goto 213 242 := ⟨32, by decide +kernel, rfl, rfl⟩
theorem dX11_slow_213 : di cX11_slow 213 (.iload 8) 2 215 := ⟨by decide +kernel, rfl⟩
theorem dX11_slow_215 : di cX11_slow 215 (.iload 7) 2 217 := ⟨by decide +kernel, rfl⟩
theorem dX11_slow_217 : dj cX11_slow 217 (.if_icmp .eq) 220 241 := ⟨24, by decide +kernel, rfl, rfl⟩
theorem dX11_slow_220 : di cX11_slow 220 (.aload_n 0) 1 221 := ⟨by decide +kernel, rfl⟩
theorem dX11_slow_221 : di cX11_slow 221 (.getfield 120) 3 224 := ⟨by decide +kernel, rfl⟩
theorem dX11_slow_224 : di cX11_slow 224 (.iload 8) 2 226 := ⟨by decide +kernel, rfl⟩
theorem dX11_slow_226 : di cX11_slow 226 (.iaload) 1 227 := ⟨by decide +kernel, rfl⟩
theorem dX11_slow_227 : di cX11_slow 227 (.aload_n 0) 1 228 := ⟨by decide +kernel, rfl⟩
theorem dX11_slow_228 : di cX11_slow 228 (.getfield 120) 3 231 := ⟨by decide +kernel, rfl⟩
theorem dX11_slow_231 : di cX11_slow 231 (.iload 7) 2 233 := ⟨by decide +kernel, rfl⟩
theorem dX11_slow_233 : di cX11_slow 233 (.iaload) 1 234 := ⟨by decide +kernel, rfl⟩
theorem dX11_slow_234 : dj cX11_slow 234 (.if_icmp .ne) 237 241 := ⟨7, by decide +kernel, rfl, rfl⟩
theorem dX11_slow_237 : di cX11_slow 237 (.iconst 1) 1 238 := ⟨by decide +kernel, rfl⟩
theorem dX11_slow_238 : dj cX11_slow 238 .goto 241 242 := ⟨4, by decide +kernel, rfl, rfl⟩
theorem dX11_slow_241 : di cX11_slow 241 (.iconst 0) 1 242 := ⟨by decide +kernel, rfl⟩
theorem dX11_slow_242 : di cX11_slow 242 (.iadd) 1 243 := ⟨by decide +kernel, rfl⟩
theorem dX11_slow_243 : di cX11_slow 243 (.iastore) 1 244 := ⟨by decide +kernel, rfl⟩
theorem dX11_slow_244 : di cX11_slow 244 (.iinc 8 1) 3 247 := ⟨by decide +kernel, rfl⟩
theorem dX11_slow_247 : dj cX11_slow 247 .goto 250 178 := ⟨-69, by decide +kernel, rfl, rfl⟩
theorem dX11_slow_250 : di cX11_slow 250 (.iload 6) 2 252 := ⟨by decide +kernel, rfl⟩
theorem dX11_slow_252 : di cX11_slow 252 (.iload 4) 2 254 := ⟨by decide +kernel, rfl⟩
theorem dX11_slow_254 : di cX11_slow 254 (.iload 7) 2 256 := ⟨by decide +kernel, rfl⟩
theorem dX11_slow_256 : di cX11_slow 256 (.ishr) 1 257 := ⟨by decide +kernel, rfl⟩
theorem dX11_slow_257 : di cX11_slow 257 (.iconst 1) 1 258 := ⟨by decide +kernel, rfl⟩
theorem dX11_slow_258 : di cX11_slow 258 (.iand) 1 259 := ⟨by decide +kernel, rfl⟩
theorem dX11_slow_259 : di cX11_slow 259 (.iconst 1) 1 260 := ⟨by decide +kernel, rfl⟩
theorem dX11_slow_260 : dj cX11_slow 260 (.if_icmp .ne) 263 273 := ⟨13, by decide +kernel, rfl, rfl⟩
theorem dX11_slow_263 : di cX11_slow 263 (.aload_n 0) 1 264 := ⟨by decide +kernel, rfl⟩
theorem dX11_slow_264 : di cX11_slow 264 (.getfield 123) 3 267 := ⟨by decide +kernel, rfl⟩
theorem dX11_slow_267 : di cX11_slow 267 (.iload 7) 2 269 := ⟨by decide +kernel, rfl⟩
theorem dX11_slow_269 : di cX11_slow 269 (.iaload) 1 270 := ⟨by decide +kernel, rfl⟩
theorem dX11_slow_270 : dj cX11_slow 270 .goto 273 274 := ⟨4, by decide +kernel, rfl, rfl⟩
theorem dX11_slow_273 : di cX11_slow 273 (.iconst 0) 1 274 := ⟨by decide +kernel, rfl⟩
theorem dX11_slow_274 : di cX11_slow 274 (.iadd) 1 275 := ⟨by decide +kernel, rfl⟩
theorem dX11_slow_275 : di cX11_slow 275 (.istore 6) 2 277 := ⟨by decide +kernel, rfl⟩
theorem dX11_slow_277 : di cX11_slow 277 (.iinc 7 1) 3 280 := ⟨by decide +kernel, rfl⟩
theorem dX11_slow_280 : dj cX11_slow 280 .goto 283 161 := ⟨-119, by decide +kernel, rfl, rfl⟩
theorem dX11_slow_283 : di cX11_slow 283 (.iconst 0) 1 284 := ⟨by decide +kernel, rfl⟩
theorem dX11_slow_284 : di cX11_slow 284 (.istore 7) 2 286 := ⟨by decide +kernel, rfl⟩
theorem dX11_slow_286 : di cX11_slow 286 (.iconst 0) 1 287 := ⟨by decide +kernel, rfl⟩
theorem dX11_slow_287 : di cX11_slow 287 (.istore 8) 2 289 := ⟨by decide +kernel, rfl⟩
theorem dX11_slow_289 : di cX11_slow 289 (.iconst 0) 1 290 := ⟨by decide +kernel, rfl⟩
theorem dX11_slow_290 : di cX11_slow 290 (.istore 9) 2 292 := ⟨by decide +kernel, rfl⟩
theorem dX11_slow_292 : di cX11_slow 292 (.iload 9) 2 294 := ⟨by decide +kernel, rfl⟩
theorem dX11_slow_294 : di cX11_slow 294 (.iconst 1) 1 295 := ⟨by decide +kernel, rfl⟩
theorem dX11_slow_295 : di cX11_slow 295 (.iload_n 3) 1 296 := ⟨by decide +kernel, rfl⟩
theorem dX11_slow_296 : di cX11_slow 296 (.ishl) 1 297 := ⟨by decide +kernel, rfl⟩
theorem dX11_slow_297 : dj cX11_slow 297 (.if_icmp .ge) 300 381 := ⟨84, by decide +kernel, rfl, rfl⟩
theorem dX11_slow_300 : di cX11_slow 300 (.iload 9) 2 302 := ⟨by decide +kernel, rfl⟩
theorem dX11_slow_302 : di cX11_slow 302 (.invokestatic 238) 3 305 := ⟨by decide +kernel, rfl⟩
theorem dX11_slow_305 : di cX11_slow 305 (.iload 5) 2 307 := ⟨by decide +kernel, rfl⟩
theorem dX11_slow_307 : dj cX11_slow 307 (.if_icmp .ne) 310 375 := ⟨68, by decide +kernel, rfl, rfl⟩
theorem dX11_slow_310 : di cX11_slow 310 (.iconst 0) 1 311 := ⟨by decide +kernel, rfl⟩
theorem dX11_slow_311 : di cX11_slow 311 (.istore 10) 2 313 := ⟨by decide +kernel, rfl⟩
theorem dX11_slow_313 : di cX11_slow 313 (.iconst 0) 1 314 := ⟨by decide +kernel, rfl⟩
theorem dX11_slow_314 : di cX11_slow 314 (.istore 11) 2 316 := ⟨by decide +kernel, rfl⟩
theorem dX11_slow_316 : di cX11_slow 316 (.iload 11) 2 318 := ⟨by decide +kernel, rfl⟩
theorem dX11_slow_318 : di cX11_slow 318 (.iload_n 3) 1 319 := ⟨by decide +kernel, rfl⟩
theorem dX11_slow_319 : dj cX11_slow 319 (.if_icmp .ge) 322 355 := ⟨36, by decide +kernel, rfl, rfl⟩
theorem dX11_slow_322 : di cX11_slow 322 (.iload 10) 2 324 := ⟨by decide +kernel, rfl⟩
theorem dX11_slow_324 : di cX11_slow 324 (.iload 9) 2 326 := ⟨by decide +kernel, rfl⟩
theorem dX11_slow_326 : di cX11_slow 326 (.iload 11) 2 328 := ⟨by decide +kernel, rfl⟩
theorem dX11_slow_328 : di cX11_slow 328 (.ishr) 1 329 := ⟨by decide +kernel, rfl⟩
theorem dX11_slow_329 : di cX11_slow 329 (.iconst 1) 1 330 := ⟨by decide +kernel, rfl⟩
theorem dX11_slow_330 : di cX11_slow 330 (.iand) 1 331 := ⟨by decide +kernel, rfl⟩
theorem dX11_slow_331 : di cX11_slow 331 (.iconst 1) 1 332 := ⟨by decide +kernel, rfl⟩
theorem dX11_slow_332 : dj cX11_slow 332 (.if_icmp .ne) 335 345 := ⟨13, by decide +kernel, rfl, rfl⟩
theorem dX11_slow_335 : di cX11_slow 335 (.aload_n 0) 1 336 := ⟨by decide +kernel, rfl⟩
theorem dX11_slow_336 : di cX11_slow 336 (.getfield 123) 3 339 := ⟨by decide +kernel, rfl⟩
theorem dX11_slow_339 : di cX11_slow 339 (.iload 11) 2 341 := ⟨by decide +kernel, rfl⟩
theorem dX11_slow_341 : di cX11_slow 341 (.iaload) 1 342 := ⟨by decide +kernel, rfl⟩
theorem dX11_slow_342 : dj cX11_slow 342 .goto 345 346 := ⟨4, by decide +kernel, rfl, rfl⟩
theorem dX11_slow_345 : di cX11_slow 345 (.iconst 0) 1 346 := ⟨by decide +kernel, rfl⟩
theorem dX11_slow_346 : di cX11_slow 346 (.iadd) 1 347 := ⟨by decide +kernel, rfl⟩
theorem dX11_slow_347 : di cX11_slow 347 (.istore 10) 2 349 := ⟨by decide +kernel, rfl⟩
theorem dX11_slow_349 : di cX11_slow 349 (.iinc 11 1) 3 352 := ⟨by decide +kernel, rfl⟩
theorem dX11_slow_352 : dj cX11_slow 352 .goto 355 316 := ⟨-36, by decide +kernel, rfl, rfl⟩
theorem dX11_slow_355 : di cX11_slow 355 (.iinc 7 1) 3 358 := ⟨by decide +kernel, rfl⟩
theorem dX11_slow_358 : di cX11_slow 358 (.iload 8) 2 360 := ⟨by decide +kernel, rfl⟩
theorem dX11_slow_360 : di cX11_slow 360 (.iload 10) 2 362 := ⟨by decide +kernel, rfl⟩
theorem dX11_slow_362 : di cX11_slow 362 (.iload 6) 2 364 := ⟨by decide +kernel, rfl⟩
theorem dX11_slow_364 : dj cX11_slow 364 (.if_icmp .lt) 367 371 := ⟨7, by decide +kernel, rfl, rfl⟩
theorem dX11_slow_367 : di cX11_slow 367 (.iconst 1) 1 368 := ⟨by decide +kernel, rfl⟩
theorem dX11_slow_368 : dj cX11_slow 368 .goto 371 372 := ⟨4, by decide +kernel, rfl, rfl⟩
theorem dX11_slow_371 : di cX11_slow 371 (.iconst 0) 1 372 := ⟨by decide +kernel, rfl⟩
theorem dX11_slow_372 : di cX11_slow 372 (.iadd) 1 373 := ⟨by decide +kernel, rfl⟩
theorem dX11_slow_373 : di cX11_slow 373 (.istore 8) 2 375 := ⟨by decide +kernel, rfl⟩
theorem dX11_slow_375 : di cX11_slow 375 (.iinc 9 1) 3 378 := ⟨by decide +kernel, rfl⟩
theorem dX11_slow_378 : dj cX11_slow 378 .goto 381 292 := ⟨-86, by decide +kernel, rfl, rfl⟩
theorem dX11_slow_381 : di cX11_slow 381 (.bipush 20) 2 383 := ⟨by decide +kernel, rfl⟩
theorem dX11_slow_383 : di cX11_slow 383 (.iload 8) 2 385 := ⟨by decide +kernel, rfl⟩
theorem dX11_slow_385 : di cX11_slow 385 (.imul) 1 386 := ⟨by decide +kernel, rfl⟩
theorem dX11_slow_386 : di cX11_slow 386 (.iload 7) 2 388 := ⟨by decide +kernel, rfl⟩
theorem dX11_slow_388 : dj cX11_slow 388 (.if_icmp .gt) 391 395 := ⟨7, by decide +kernel, rfl, rfl⟩
theorem dX11_slow_391 : di cX11_slow 391 (.iconst 1) 1 392 := ⟨by decide +kernel, rfl⟩
theorem dX11_slow_392 : dj cX11_slow 392 .goto 395 396 := ⟨4, by decide +kernel, rfl, rfl⟩
theorem dX11_slow_395 : di cX11_slow 395 (.iconst 0) 1 396 := ⟨by decide +kernel, rfl⟩
theorem dX11_slow_396 : di cX11_slow 396 (.ireturn) 1 397 := ⟨by decide +kernel, rfl⟩
def f_X11_slow_L29 (v1 : Int32) (v2 : Int32) : Nat → Int32 → Int32 → Int32 → Mem → (Int32 → Int32 → Int32 → Mem → Option Ret) → Option Ret
  | 0, _, _, _, _, _ => none
  | k29 + 1, v3, v4, v5, M, K29 => if (M.1 11 25) ≤ v5 then (K29 v3 v4 v5 M) else (gV v5 100 (jn (α := Int32 → Int32 → Mem → Option Ret) (fun (y8 : Int32) (y9 : Int32) (M10 : Mem) => f_X11_slow_L29 v1 v2 k29 y8 y9 (v5 + (1 : Int32)) M10 K29) (fun J7 => if (M.1 83 v5.toNatClampNeg) = v1 then (gV v5 100 (if (M.1 84 v5.toNatClampNeg) = v2 then (gV v5 100 (if (M.1 85 v5.toNatClampNeg) ≤ 0 then (J7 v3 v4 M) else (if (14 : Int32) ≤ v3 then (J7 v3 v4 M) else (gV v5 100 (gV v5 100 (gN (M.1 85 v5.toNatClampNeg) (gV v3 14 (bM (up2 M 100 v3.toNatClampNeg (((M.1 87 v5.toNatClampNeg) * (100 : Int32)) / (M.1 85 v5.toNatClampNeg))) (fun M11 => gV v5 100 (jn (α := Int32 → Option Ret) (fun (z13 : Int32) => bI (v4 ||| z13) (fun x14 => J7 (v3 + (1 : Int32)) x14 M11)) (fun J12 => if (M11.1 88 v5.toNatClampNeg) = 0 then (J12 (0 : Int32)) else (J12 ((1 : Int32) <<< (v3 &&& 31)))))))))))))) else (J7 v3 v4 M))) else (J7 v3 v4 M))))
set_option maxRecDepth 100000 in
theorem f_X11_slow_L29_ok {l : Launch} {g : Cx} (v1 : Int32) (v2 : Int32)  {r : Int32} {Mr : Mem} : ∀ (k : Nat) (v3 : Int32) (v4 : Int32) (v5 : Int32) (M : Mem) (K29 : Int32 → Int32 → Int32 → Mem → Option Ret), f_X11_slow_L29 v1 v2 k v3 v4 v5 M K29 = some (r, Mr) → (∀ (v3 : Int32) (v4 : Int32) (v5 : Int32) (M : Mem), K29 v3 v4 v5 M = some (r, Mr) → AT l g RX11 cX11_slow 12 (some .int) (rmM 2 42) (PI r Mr) 131 [some (.ref (g.1 11)), some (.int v1), some (.int v2), some (.int v3), some (.int v4), some (.int v5), none, none, none, none, none, none] [] M) → AT l g RX11 cX11_slow 12 (some .int) (rmM 2 42) (PI r Mr) 29 [some (.ref (g.1 11)), some (.int v1), some (.int v2), some (.int v3), some (.int v4), some (.int v5), none, none, none, none, none, none] [] M
  | 0, v3, v4, v5, M, K29, h, hK29 => by cases h
  | k29 + 1, v3, v4, v5, M, K29, h, hK29 => by
    have ih29 := f_X11_slow_L29_ok (l := l) (g := g) v1 v2 (r := r) (Mr := Mr) k29
    rw [f_X11_slow_L29] at h
    refine A_iload dX11_slow_29 rfl ?_
    refine A_aload_n dX11_slow_31 rfl ?_
    refine A_getf dX11_slow_32 fw_X11_221 ob11 rfl ?_
    refine A_icmp_ge dX11_slow_35 (fun hc => ?_) (fun hc => ?_)
    · have h := gT_go hc h
      exact A_le (lvLe_s (lvLe_s (lvLe_s (lvLe_s (lvLe_s (lvLe_s (lvLe_n (lvLe_n (lvLe_n (lvLe_n (lvLe_n (lvLe_n lvLe_0)))))))))))) (hK29 _ _ _ _ h)
    · have h := gF_go hc h
      refine A_aload_n dX11_slow_38 rfl ?_
      refine A_getf dX11_slow_39 fw_X11_69 ob11 rfl ?_
      refine A_iload dX11_slow_42 rfl ?_
      obtain ⟨hg, h⟩ := gV_go h
      refine A_iald dX11_slow_44 ia83 hg ?_
      refine A_iload_n dX11_slow_45 rfl ?_
      obtain ⟨J7, hJ7, h⟩ := jn_go h
      have JJ7 : ∀ (y8 : Int32) (y9 : Int32) (M10 : Mem), J7 y8 y9 M10 = some (r, Mr) → AT l g RX11 cX11_slow 12 (some .int) (rmM 2 42) (PI r Mr) 125 [some (.ref (g.1 11)), some (.int v1), some (.int v2), some (.int y8), some (.int y9), some (.int v5), none, none, none, none, none, none] [] M10 := by
        intro y8 y9 M10 h
        rw [hJ7] at h
        refine A_iinc5 (d := 1) dX11_slow_125 (by decide) (by decide) rfl ?_
        refine A_goto dX11_slow_128 ?_
        exact A_le (lvLe_s (lvLe_s (lvLe_s (lvLe_s (lvLe_s (lvLe_s (lvLe_n (lvLe_n (lvLe_n (lvLe_n (lvLe_n (lvLe_n lvLe_0)))))))))))) (ih29 _ _ _ _ K29 h hK29)
      refine A_icmp_ne dX11_slow_46 (fun hc => ?_) (fun hc => ?_)
      · have h := gF_go hc h
        exact A_le (lvLe_s (lvLe_s (lvLe_s (lvLe_s (lvLe_s (lvLe_s (lvLe_n (lvLe_n (lvLe_n (lvLe_n (lvLe_n (lvLe_n lvLe_0)))))))))))) (JJ7 _ _ _ h)
      · have h := gT_go hc h
        refine A_aload_n dX11_slow_49 rfl ?_
        refine A_getf dX11_slow_50 fw_X11_72 ob11 rfl ?_
        refine A_iload dX11_slow_53 rfl ?_
        obtain ⟨hg, h⟩ := gV_go h
        refine A_iald dX11_slow_55 ia84 hg ?_
        refine A_iload_n dX11_slow_56 rfl ?_
        refine A_icmp_ne dX11_slow_57 (fun hc => ?_) (fun hc => ?_)
        · have h := gF_go hc h
          exact A_le (lvLe_s (lvLe_s (lvLe_s (lvLe_s (lvLe_s (lvLe_s (lvLe_n (lvLe_n (lvLe_n (lvLe_n (lvLe_n (lvLe_n lvLe_0)))))))))))) (JJ7 _ _ _ h)
        · have h := gT_go hc h
          refine A_aload_n dX11_slow_60 rfl ?_
          refine A_getf dX11_slow_61 fw_X11_75 ob11 rfl ?_
          refine A_iload dX11_slow_64 rfl ?_
          obtain ⟨hg, h⟩ := gV_go h
          refine A_iald dX11_slow_66 ia85 hg ?_
          refine A_if_le dX11_slow_67 (fun hc => ?_) (fun hc => ?_)
          · have h := gT_go hc h
            exact A_le (lvLe_s (lvLe_s (lvLe_s (lvLe_s (lvLe_s (lvLe_s (lvLe_n (lvLe_n (lvLe_n (lvLe_n (lvLe_n (lvLe_n lvLe_0)))))))))))) (JJ7 _ _ _ h)
          · have h := gF_go hc h
            refine A_iload_n dX11_slow_70 rfl ?_
            refine A_bipush (v := 14) dX11_slow_71 (by decide) ?_
            refine A_icmp_ge dX11_slow_73 (fun hc => ?_) (fun hc => ?_)
            · have h := gT_go hc h
              exact A_le (lvLe_s (lvLe_s (lvLe_s (lvLe_s (lvLe_s (lvLe_s (lvLe_n (lvLe_n (lvLe_n (lvLe_n (lvLe_n (lvLe_n lvLe_0)))))))))))) (JJ7 _ _ _ h)
            · have h := gF_go hc h
              refine A_aload_n dX11_slow_76 rfl ?_
              refine A_getf dX11_slow_77 fw_X11_120 ob11 rfl ?_
              refine A_iload_n dX11_slow_80 rfl ?_
              refine A_aload_n dX11_slow_81 rfl ?_
              refine A_getf dX11_slow_82 fw_X11_81 ob11 rfl ?_
              refine A_iload dX11_slow_85 rfl ?_
              obtain ⟨hg, h⟩ := gV_go h
              refine A_iald dX11_slow_87 ia87 hg ?_
              refine A_bipush (v := 100) dX11_slow_88 (by decide) ?_
              refine A_imul dX11_slow_90 ?_
              refine A_aload_n dX11_slow_91 rfl ?_
              refine A_getf dX11_slow_92 fw_X11_75 ob11 rfl ?_
              refine A_iload dX11_slow_95 rfl ?_
              obtain ⟨hg, h⟩ := gV_go h
              refine A_iald dX11_slow_97 ia85 hg ?_
              obtain ⟨hg, h⟩ := gN_go h
              refine A_idiv dX11_slow_98 hg ?_
              obtain ⟨hg, h⟩ := gV_go h
              refine A_iast dX11_slow_99 ia100 hg (bM_go h (fun M11 h => ?_))
              refine A_iload dX11_slow_100 rfl ?_
              refine A_aload_n dX11_slow_102 rfl ?_
              refine A_getf dX11_slow_103 fw_X11_84 ob11 rfl ?_
              refine A_iload dX11_slow_106 rfl ?_
              obtain ⟨hg, h⟩ := gV_go h
              refine A_zald dX11_slow_108 za88 hg ?_
              obtain ⟨J12, hJ12, h⟩ := jn_go h
              have JJ12 : ∀ (z13 : Int32), J12 z13 = some (r, Mr) → AT l g RX11 cX11_slow 12 (some .int) (rmM 2 42) (PI r Mr) 119 [some (.ref (g.1 11)), some (.int v1), some (.int v2), some (.int v3), some (.int v4), some (.int v5), none, none, none, none, none, none] [.int z13, .int v4] M11 := by
                intro z13 h
                rw [hJ12] at h
                refine A_ior dX11_slow_119 ?_
                refine A_istore4 dX11_slow_120 (by decide) rfl (bI_go h (G := fun z => AT l g RX11 cX11_slow 12 (some .int) (rmM 2 42) (PI r Mr) 122 [some (.ref (g.1 11)), some (.int v1), some (.int v2), some (.int v3), some (.int z), some (.int v5), none, none, none, none, none, none] [] M11) (fun x14 h => ?_))
                refine A_iinc3 (d := 1) dX11_slow_122 (by decide) (by decide) rfl ?_
                exact A_le (lvLe_s (lvLe_s (lvLe_s (lvLe_s (lvLe_s (lvLe_s (lvLe_n (lvLe_n (lvLe_n (lvLe_n (lvLe_n (lvLe_n lvLe_0)))))))))))) (JJ7 _ _ _ h)
              refine A_if_eq dX11_slow_109 (fun hc => ?_) (fun hc => ?_)
              · have h := gT_go hc h
                refine A_iconst (v := 0) dX11_slow_118 (by decide) ?_
                exact A_le (lvLe_s (lvLe_s (lvLe_s (lvLe_s (lvLe_s (lvLe_s (lvLe_n (lvLe_n (lvLe_n (lvLe_n (lvLe_n (lvLe_n lvLe_0)))))))))))) (JJ12 _ h)
              · have h := gF_go hc h
                refine A_iconst (v := 1) dX11_slow_112 (by decide) ?_
                refine A_iload_n dX11_slow_113 rfl ?_
                refine A_ishl dX11_slow_114 ?_
                refine A_goto dX11_slow_115 ?_
                exact A_le (lvLe_s (lvLe_s (lvLe_s (lvLe_s (lvLe_s (lvLe_s (lvLe_n (lvLe_n (lvLe_n (lvLe_n (lvLe_n (lvLe_n lvLe_0)))))))))))) (JJ12 _ h)
def f_X11_slow_L178 (v1 : Int32) (v2 : Int32) (v3 : Int32) (v4 : Int32) (v5 : Int32) (v6 : Int32) (v7 : Int32) : Nat → Int32 → Mem → (Int32 → Mem → Option Ret) → Option Ret
  | 0, _, _, _ => none
  | k178 + 1, v8, M, K178 => if v3 ≤ v8 then (K178 v8 M) else (gV v7 14 (gV v8 14 (gV v7 14 (jn (α := Int32 → Option Ret) (fun (z25 : Int32) => gV v7 14 (bM (up2 M 101 v7.toNatClampNeg ((M.1 101 v7.toNatClampNeg) + z25)) (fun M26 => f_X11_slow_L178 v1 v2 v3 v4 v5 v6 v7 k178 (v8 + (1 : Int32)) M26 K178))) (fun J24 => if (M.1 100 v7.toNatClampNeg) ≤ (M.1 100 v8.toNatClampNeg) then (if v8 = v7 then (J24 (0 : Int32)) else (gV v8 14 (gV v7 14 (if (M.1 100 v8.toNatClampNeg) = (M.1 100 v7.toNatClampNeg) then (J24 (1 : Int32)) else (J24 (0 : Int32)))))) else (J24 (2 : Int32)))))))
set_option maxRecDepth 100000 in
theorem f_X11_slow_L178_ok {l : Launch} {g : Cx} (v1 : Int32) (v2 : Int32) (v3 : Int32) (v4 : Int32) (v5 : Int32) (v6 : Int32) (v7 : Int32)  {r : Int32} {Mr : Mem} : ∀ (k : Nat) (v8 : Int32) (M : Mem) (K178 : Int32 → Mem → Option Ret), f_X11_slow_L178 v1 v2 v3 v4 v5 v6 v7 k v8 M K178 = some (r, Mr) → (∀ (v8 : Int32) (M : Mem), K178 v8 M = some (r, Mr) → AT l g RX11 cX11_slow 12 (some .int) (rmM 2 42) (PI r Mr) 250 [some (.ref (g.1 11)), some (.int v1), some (.int v2), some (.int v3), some (.int v4), some (.int v5), some (.int v6), some (.int v7), some (.int v8), none, none, none] [] M) → AT l g RX11 cX11_slow 12 (some .int) (rmM 2 42) (PI r Mr) 178 [some (.ref (g.1 11)), some (.int v1), some (.int v2), some (.int v3), some (.int v4), some (.int v5), some (.int v6), some (.int v7), some (.int v8), none, none, none] [] M
  | 0, v8, M, K178, h, hK178 => by cases h
  | k178 + 1, v8, M, K178, h, hK178 => by
    have ih178 := f_X11_slow_L178_ok (l := l) (g := g) v1 v2 v3 v4 v5 v6 v7 (r := r) (Mr := Mr) k178
    rw [f_X11_slow_L178] at h
    refine A_iload dX11_slow_178 rfl ?_
    refine A_iload_n dX11_slow_180 rfl ?_
    refine A_icmp_ge dX11_slow_181 (fun hc => ?_) (fun hc => ?_)
    · have h := gT_go hc h
      exact A_le (lvLe_s (lvLe_s (lvLe_s (lvLe_s (lvLe_s (lvLe_s (lvLe_s (lvLe_s (lvLe_s (lvLe_n (lvLe_n (lvLe_n lvLe_0)))))))))))) (hK178 _ _ h)
    · have h := gF_go hc h
      refine A_aload_n dX11_slow_184 rfl ?_
      refine A_getf dX11_slow_185 fw_X11_123 ob11 rfl ?_
      refine A_iload dX11_slow_188 rfl ?_
      refine A_dup2 dX11_slow_190 rfl rfl ?_
      obtain ⟨hg, h⟩ := gV_go h
      refine A_iald dX11_slow_191 ia101 hg ?_
      refine A_aload_n dX11_slow_192 rfl ?_
      refine A_getf dX11_slow_193 fw_X11_120 ob11 rfl ?_
      refine A_iload dX11_slow_196 rfl ?_
      obtain ⟨hg, h⟩ := gV_go h
      refine A_iald dX11_slow_198 ia100 hg ?_
      refine A_aload_n dX11_slow_199 rfl ?_
      refine A_getf dX11_slow_200 fw_X11_120 ob11 rfl ?_
      refine A_iload dX11_slow_203 rfl ?_
      obtain ⟨hg, h⟩ := gV_go h
      refine A_iald dX11_slow_205 ia100 hg ?_
      obtain ⟨J24, hJ24, h⟩ := jn_go h
      have JJ24 : ∀ (z25 : Int32), J24 z25 = some (r, Mr) → AT l g RX11 cX11_slow 12 (some .int) (rmM 2 42) (PI r Mr) 242 [some (.ref (g.1 11)), some (.int v1), some (.int v2), some (.int v3), some (.int v4), some (.int v5), some (.int v6), some (.int v7), some (.int v8), none, none, none] [.int z25, .int (M.1 101 v7.toNatClampNeg), .int v7, .ref (g.1 101)] M := by
        intro z25 h
        rw [hJ24] at h
        refine A_iadd dX11_slow_242 ?_
        obtain ⟨hg, h⟩ := gV_go h
        refine A_iast dX11_slow_243 ia101 hg (bM_go h (fun M26 h => ?_))
        refine A_iinc8 (d := 1) dX11_slow_244 (by decide) (by decide) rfl ?_
        refine A_goto dX11_slow_247 ?_
        exact A_le (lvLe_s (lvLe_s (lvLe_s (lvLe_s (lvLe_s (lvLe_s (lvLe_s (lvLe_s (lvLe_s (lvLe_n (lvLe_n (lvLe_n lvLe_0)))))))))))) (ih178 _ _ K178 h hK178)
      refine A_icmp_ge dX11_slow_206 (fun hc => ?_) (fun hc => ?_)
      · have h := gT_go hc h
        refine A_iload dX11_slow_213 rfl ?_
        refine A_iload dX11_slow_215 rfl ?_
        refine A_icmp_eq dX11_slow_217 (fun hc => ?_) (fun hc => ?_)
        · have h := gT_go hc h
          refine A_iconst (v := 0) dX11_slow_241 (by decide) ?_
          exact A_le (lvLe_s (lvLe_s (lvLe_s (lvLe_s (lvLe_s (lvLe_s (lvLe_s (lvLe_s (lvLe_s (lvLe_n (lvLe_n (lvLe_n lvLe_0)))))))))))) (JJ24 _ h)
        · have h := gF_go hc h
          refine A_aload_n dX11_slow_220 rfl ?_
          refine A_getf dX11_slow_221 fw_X11_120 ob11 rfl ?_
          refine A_iload dX11_slow_224 rfl ?_
          obtain ⟨hg, h⟩ := gV_go h
          refine A_iald dX11_slow_226 ia100 hg ?_
          refine A_aload_n dX11_slow_227 rfl ?_
          refine A_getf dX11_slow_228 fw_X11_120 ob11 rfl ?_
          refine A_iload dX11_slow_231 rfl ?_
          obtain ⟨hg, h⟩ := gV_go h
          refine A_iald dX11_slow_233 ia100 hg ?_
          refine A_icmp_ne dX11_slow_234 (fun hc => ?_) (fun hc => ?_)
          · have h := gF_go hc h
            refine A_iconst (v := 0) dX11_slow_241 (by decide) ?_
            exact A_le (lvLe_s (lvLe_s (lvLe_s (lvLe_s (lvLe_s (lvLe_s (lvLe_s (lvLe_s (lvLe_s (lvLe_n (lvLe_n (lvLe_n lvLe_0)))))))))))) (JJ24 _ h)
          · have h := gT_go hc h
            refine A_iconst (v := 1) dX11_slow_237 (by decide) ?_
            refine A_goto dX11_slow_238 ?_
            exact A_le (lvLe_s (lvLe_s (lvLe_s (lvLe_s (lvLe_s (lvLe_s (lvLe_s (lvLe_s (lvLe_s (lvLe_n (lvLe_n (lvLe_n lvLe_0)))))))))))) (JJ24 _ h)
      · have h := gF_go hc h
        refine A_iconst (v := 2) dX11_slow_209 (by decide) ?_
        refine A_goto dX11_slow_210 ?_
        exact A_le (lvLe_s (lvLe_s (lvLe_s (lvLe_s (lvLe_s (lvLe_s (lvLe_s (lvLe_s (lvLe_s (lvLe_n (lvLe_n (lvLe_n lvLe_0)))))))))))) (JJ24 _ h)
def f_X11_slow_L161 (v1 : Int32) (v2 : Int32) (v3 : Int32) (v4 : Int32) (v5 : Int32) : Nat → Int32 → Int32 → Mem → (Int32 → Int32 → Mem → Option Ret) → Option Ret
  | 0, _, _, _, _ => none
  | k161 + 1, v6, v7, M, K161 => if v3 ≤ v7 then (K161 v6 v7 M) else (gV v7 14 (bM (up2 M 101 v7.toNatClampNeg (0 : Int32)) (fun M23 => f_X11_slow_L178 v1 v2 v3 v4 v5 v6 v7 FU (0 : Int32) M23 (fun w27 M28 => jn (α := Int32 → Option Ret) (fun (z30 : Int32) => bI (v6 + z30) (fun x31 => f_X11_slow_L161 v1 v2 v3 v4 v5 k161 x31 (v7 + (1 : Int32)) M28 K161)) (fun J29 => if ((v4 >>> (v7 &&& 31)) &&& (1 : Int32)) = (1 : Int32) then (gV v7 14 (J29 (M28.1 101 v7.toNatClampNeg))) else (J29 (0 : Int32)))))))
set_option maxRecDepth 100000 in
theorem f_X11_slow_L161_ok {l : Launch} {g : Cx} (v1 : Int32) (v2 : Int32) (v3 : Int32) (v4 : Int32) (v5 : Int32)  {r : Int32} {Mr : Mem} : ∀ (k : Nat) (v6 : Int32) (v7 : Int32) (M : Mem) (K161 : Int32 → Int32 → Mem → Option Ret), f_X11_slow_L161 v1 v2 v3 v4 v5 k v6 v7 M K161 = some (r, Mr) → (∀ (v6 : Int32) (v7 : Int32) (M : Mem), K161 v6 v7 M = some (r, Mr) → AT l g RX11 cX11_slow 12 (some .int) (rmM 2 42) (PI r Mr) 283 [some (.ref (g.1 11)), some (.int v1), some (.int v2), some (.int v3), some (.int v4), some (.int v5), some (.int v6), some (.int v7), none, none, none, none] [] M) → AT l g RX11 cX11_slow 12 (some .int) (rmM 2 42) (PI r Mr) 161 [some (.ref (g.1 11)), some (.int v1), some (.int v2), some (.int v3), some (.int v4), some (.int v5), some (.int v6), some (.int v7), none, none, none, none] [] M
  | 0, v6, v7, M, K161, h, hK161 => by cases h
  | k161 + 1, v6, v7, M, K161, h, hK161 => by
    have ih161 := f_X11_slow_L161_ok (l := l) (g := g) v1 v2 v3 v4 v5 (r := r) (Mr := Mr) k161
    rw [f_X11_slow_L161] at h
    refine A_iload dX11_slow_161 rfl ?_
    refine A_iload_n dX11_slow_163 rfl ?_
    refine A_icmp_ge dX11_slow_164 (fun hc => ?_) (fun hc => ?_)
    · have h := gT_go hc h
      exact A_le (lvLe_s (lvLe_s (lvLe_s (lvLe_s (lvLe_s (lvLe_s (lvLe_s (lvLe_s (lvLe_n (lvLe_n (lvLe_n (lvLe_n lvLe_0)))))))))))) (hK161 _ _ _ h)
    · have h := gF_go hc h
      refine A_aload_n dX11_slow_167 rfl ?_
      refine A_getf dX11_slow_168 fw_X11_123 ob11 rfl ?_
      refine A_iload dX11_slow_171 rfl ?_
      refine A_iconst (v := 0) dX11_slow_173 (by decide) ?_
      obtain ⟨hg, h⟩ := gV_go h
      refine A_iast dX11_slow_174 ia101 hg (bM_go h (fun M23 h => ?_))
      refine A_iconst (v := 0) dX11_slow_175 (by decide) ?_
      refine A_istore8 dX11_slow_176 (by decide) rfl ?_
      refine f_X11_slow_L178_ok _ _ _ _ _ _ _ FU _ _ _ h (fun w27 M28 h => ?_)
      refine A_iload dX11_slow_250 rfl ?_
      refine A_iload dX11_slow_252 rfl ?_
      refine A_iload dX11_slow_254 rfl ?_
      refine A_ishr dX11_slow_256 ?_
      refine A_iconst (v := 1) dX11_slow_257 (by decide) ?_
      refine A_iand dX11_slow_258 ?_
      refine A_iconst (v := 1) dX11_slow_259 (by decide) ?_
      obtain ⟨J29, hJ29, h⟩ := jn_go h
      have JJ29 : ∀ (z30 : Int32), J29 z30 = some (r, Mr) → AT l g RX11 cX11_slow 12 (some .int) (rmM 2 42) (PI r Mr) 274 [some (.ref (g.1 11)), some (.int v1), some (.int v2), some (.int v3), some (.int v4), some (.int v5), some (.int v6), some (.int v7), some (.int w27), none, none, none] [.int z30, .int v6] M28 := by
        intro z30 h
        rw [hJ29] at h
        refine A_iadd dX11_slow_274 ?_
        refine A_istore6 dX11_slow_275 (by decide) rfl (bI_go h (G := fun z => AT l g RX11 cX11_slow 12 (some .int) (rmM 2 42) (PI r Mr) 277 [some (.ref (g.1 11)), some (.int v1), some (.int v2), some (.int v3), some (.int v4), some (.int v5), some (.int z), some (.int v7), some (.int w27), none, none, none] [] M28) (fun x31 h => ?_))
        refine A_iinc7 (d := 1) dX11_slow_277 (by decide) (by decide) rfl ?_
        refine A_goto dX11_slow_280 ?_
        exact A_le (lvLe_s (lvLe_s (lvLe_s (lvLe_s (lvLe_s (lvLe_s (lvLe_s (lvLe_s (lvLe_n (lvLe_n (lvLe_n (lvLe_n lvLe_0)))))))))))) (ih161 _ _ _ K161 h hK161)
      refine A_icmp_ne dX11_slow_260 (fun hc => ?_) (fun hc => ?_)
      · have h := gF_go hc h
        refine A_iconst (v := 0) dX11_slow_273 (by decide) ?_
        exact A_le (lvLe_s (lvLe_s (lvLe_s (lvLe_s (lvLe_s (lvLe_s (lvLe_s (lvLe_s (lvLe_s (lvLe_n (lvLe_n (lvLe_n lvLe_0)))))))))))) (JJ29 _ h)
      · have h := gT_go hc h
        refine A_aload_n dX11_slow_263 rfl ?_
        refine A_getf dX11_slow_264 fw_X11_123 ob11 rfl ?_
        refine A_iload dX11_slow_267 rfl ?_
        obtain ⟨hg, h⟩ := gV_go h
        refine A_iald dX11_slow_269 ia101 hg ?_
        refine A_goto dX11_slow_270 ?_
        exact A_le (lvLe_s (lvLe_s (lvLe_s (lvLe_s (lvLe_s (lvLe_s (lvLe_s (lvLe_s (lvLe_s (lvLe_n (lvLe_n (lvLe_n lvLe_0)))))))))))) (JJ29 _ h)
def f_X11_slow_L316 (v1 : Int32) (v2 : Int32) (v3 : Int32) (v4 : Int32) (v5 : Int32) (v6 : Int32) (v7 : Int32) (v8 : Int32) (v9 : Int32) : Nat → Int32 → Int32 → Mem → (Int32 → Int32 → Mem → Option Ret) → Option Ret
  | 0, _, _, _, _ => none
  | k316 + 1, v10, v11, M, K316 => if v3 ≤ v11 then (K316 v10 v11 M) else (jn (α := Int32 → Option Ret) (fun (z42 : Int32) => bI (v10 + z42) (fun x43 => f_X11_slow_L316 v1 v2 v3 v4 v5 v6 v7 v8 v9 k316 x43 (v11 + (1 : Int32)) M K316)) (fun J41 => if ((v9 >>> (v11 &&& 31)) &&& (1 : Int32)) = (1 : Int32) then (gV v11 14 (J41 (M.1 101 v11.toNatClampNeg))) else (J41 (0 : Int32))))
set_option maxRecDepth 100000 in
theorem f_X11_slow_L316_ok {l : Launch} {g : Cx} (v1 : Int32) (v2 : Int32) (v3 : Int32) (v4 : Int32) (v5 : Int32) (v6 : Int32) (v7 : Int32) (v8 : Int32) (v9 : Int32)  {r : Int32} {Mr : Mem} : ∀ (k : Nat) (v10 : Int32) (v11 : Int32) (M : Mem) (K316 : Int32 → Int32 → Mem → Option Ret), f_X11_slow_L316 v1 v2 v3 v4 v5 v6 v7 v8 v9 k v10 v11 M K316 = some (r, Mr) → (∀ (v10 : Int32) (v11 : Int32) (M : Mem), K316 v10 v11 M = some (r, Mr) → AT l g RX11 cX11_slow 12 (some .int) (rmM 2 42) (PI r Mr) 355 [some (.ref (g.1 11)), some (.int v1), some (.int v2), some (.int v3), some (.int v4), some (.int v5), some (.int v6), some (.int v7), some (.int v8), some (.int v9), some (.int v10), some (.int v11)] [] M) → AT l g RX11 cX11_slow 12 (some .int) (rmM 2 42) (PI r Mr) 316 [some (.ref (g.1 11)), some (.int v1), some (.int v2), some (.int v3), some (.int v4), some (.int v5), some (.int v6), some (.int v7), some (.int v8), some (.int v9), some (.int v10), some (.int v11)] [] M
  | 0, v10, v11, M, K316, h, hK316 => by cases h
  | k316 + 1, v10, v11, M, K316, h, hK316 => by
    have ih316 := f_X11_slow_L316_ok (l := l) (g := g) v1 v2 v3 v4 v5 v6 v7 v8 v9 (r := r) (Mr := Mr) k316
    rw [f_X11_slow_L316] at h
    refine A_iload dX11_slow_316 rfl ?_
    refine A_iload_n dX11_slow_318 rfl ?_
    refine A_icmp_ge dX11_slow_319 (fun hc => ?_) (fun hc => ?_)
    · have h := gT_go hc h
      exact A_le (lvLe_s (lvLe_s (lvLe_s (lvLe_s (lvLe_s (lvLe_s (lvLe_s (lvLe_s (lvLe_s (lvLe_s (lvLe_s (lvLe_s lvLe_0)))))))))))) (hK316 _ _ _ h)
    · have h := gF_go hc h
      refine A_iload dX11_slow_322 rfl ?_
      refine A_iload dX11_slow_324 rfl ?_
      refine A_iload dX11_slow_326 rfl ?_
      refine A_ishr dX11_slow_328 ?_
      refine A_iconst (v := 1) dX11_slow_329 (by decide) ?_
      refine A_iand dX11_slow_330 ?_
      refine A_iconst (v := 1) dX11_slow_331 (by decide) ?_
      obtain ⟨J41, hJ41, h⟩ := jn_go h
      have JJ41 : ∀ (z42 : Int32), J41 z42 = some (r, Mr) → AT l g RX11 cX11_slow 12 (some .int) (rmM 2 42) (PI r Mr) 346 [some (.ref (g.1 11)), some (.int v1), some (.int v2), some (.int v3), some (.int v4), some (.int v5), some (.int v6), some (.int v7), some (.int v8), some (.int v9), some (.int v10), some (.int v11)] [.int z42, .int v10] M := by
        intro z42 h
        rw [hJ41] at h
        refine A_iadd dX11_slow_346 ?_
        refine A_istore10 dX11_slow_347 (by decide) rfl (bI_go h (G := fun z => AT l g RX11 cX11_slow 12 (some .int) (rmM 2 42) (PI r Mr) 349 [some (.ref (g.1 11)), some (.int v1), some (.int v2), some (.int v3), some (.int v4), some (.int v5), some (.int v6), some (.int v7), some (.int v8), some (.int v9), some (.int z), some (.int v11)] [] M) (fun x43 h => ?_))
        refine A_iinc11 (d := 1) dX11_slow_349 (by decide) (by decide) rfl ?_
        refine A_goto dX11_slow_352 ?_
        exact A_le (lvLe_s (lvLe_s (lvLe_s (lvLe_s (lvLe_s (lvLe_s (lvLe_s (lvLe_s (lvLe_s (lvLe_s (lvLe_s (lvLe_s lvLe_0)))))))))))) (ih316 _ _ _ K316 h hK316)
      refine A_icmp_ne dX11_slow_332 (fun hc => ?_) (fun hc => ?_)
      · have h := gF_go hc h
        refine A_iconst (v := 0) dX11_slow_345 (by decide) ?_
        exact A_le (lvLe_s (lvLe_s (lvLe_s (lvLe_s (lvLe_s (lvLe_s (lvLe_s (lvLe_s (lvLe_s (lvLe_s (lvLe_s (lvLe_s lvLe_0)))))))))))) (JJ41 _ h)
      · have h := gT_go hc h
        refine A_aload_n dX11_slow_335 rfl ?_
        refine A_getf dX11_slow_336 fw_X11_123 ob11 rfl ?_
        refine A_iload dX11_slow_339 rfl ?_
        obtain ⟨hg, h⟩ := gV_go h
        refine A_iald dX11_slow_341 ia101 hg ?_
        refine A_goto dX11_slow_342 ?_
        exact A_le (lvLe_s (lvLe_s (lvLe_s (lvLe_s (lvLe_s (lvLe_s (lvLe_s (lvLe_s (lvLe_s (lvLe_s (lvLe_s (lvLe_s lvLe_0)))))))))))) (JJ41 _ h)
def f_X11_slow_L292 (v1 : Int32) (v2 : Int32) (v3 : Int32) (v4 : Int32) (v5 : Int32) (v6 : Int32) : Nat → Int32 → Int32 → Int32 → Mem → (Int32 → Int32 → Int32 → Mem → Option Ret) → Option Ret
  | 0, _, _, _, _, _ => none
  | k292 + 1, v7, v8, v9, M, K292 => if ((1 : Int32) <<< (v3 &&& 31)) ≤ v9 then (K292 v7 v8 v9 M) else (bE (f_X11_ones v9 M) (fun r36 M35 => jn (α := Int32 → Int32 → Mem → Option Ret) (fun (y38 : Int32) (y39 : Int32) (M40 : Mem) => f_X11_slow_L292 v1 v2 v3 v4 v5 v6 k292 y38 y39 (v9 + (1 : Int32)) M40 K292) (fun J37 => if r36 = v5 then (f_X11_slow_L316 v1 v2 v3 v4 v5 v6 v7 v8 v9 FU (0 : Int32) (0 : Int32) M35 (fun w44 w45 M46 => jn (α := Int32 → Option Ret) (fun (z48 : Int32) => bI (v8 + z48) (fun x49 => J37 (v7 + (1 : Int32)) x49 M46)) (fun J47 => if w44 < v6 then (J47 (0 : Int32)) else (J47 (1 : Int32))))) else (J37 v7 v8 M35))))
set_option maxRecDepth 100000 in
theorem f_X11_slow_L292_ok {l : Launch} {g : Cx} (v1 : Int32) (v2 : Int32) (v3 : Int32) (v4 : Int32) (v5 : Int32) (v6 : Int32)  {r : Int32} {Mr : Mem} : ∀ (k : Nat) (v7 : Int32) (v8 : Int32) (v9 : Int32) (M : Mem) (K292 : Int32 → Int32 → Int32 → Mem → Option Ret), f_X11_slow_L292 v1 v2 v3 v4 v5 v6 k v7 v8 v9 M K292 = some (r, Mr) → (∀ (v7 : Int32) (v8 : Int32) (v9 : Int32) (M : Mem), K292 v7 v8 v9 M = some (r, Mr) → AT l g RX11 cX11_slow 12 (some .int) (rmM 2 42) (PI r Mr) 381 [some (.ref (g.1 11)), some (.int v1), some (.int v2), some (.int v3), some (.int v4), some (.int v5), some (.int v6), some (.int v7), some (.int v8), some (.int v9), none, none] [] M) → AT l g RX11 cX11_slow 12 (some .int) (rmM 2 42) (PI r Mr) 292 [some (.ref (g.1 11)), some (.int v1), some (.int v2), some (.int v3), some (.int v4), some (.int v5), some (.int v6), some (.int v7), some (.int v8), some (.int v9), none, none] [] M
  | 0, v7, v8, v9, M, K292, h, hK292 => by cases h
  | k292 + 1, v7, v8, v9, M, K292, h, hK292 => by
    have ih292 := f_X11_slow_L292_ok (l := l) (g := g) v1 v2 v3 v4 v5 v6 (r := r) (Mr := Mr) k292
    rw [f_X11_slow_L292] at h
    refine A_iload dX11_slow_292 rfl ?_
    refine A_iconst (v := 1) dX11_slow_294 (by decide) ?_
    refine A_iload_n dX11_slow_295 rfl ?_
    refine A_ishl dX11_slow_296 ?_
    refine A_icmp_ge dX11_slow_297 (fun hc => ?_) (fun hc => ?_)
    · have h := gT_go hc h
      exact A_le (lvLe_s (lvLe_s (lvLe_s (lvLe_s (lvLe_s (lvLe_s (lvLe_s (lvLe_s (lvLe_s (lvLe_s (lvLe_n (lvLe_n lvLe_0)))))))))))) (hK292 _ _ _ _ h)
    · have h := gF_go hc h
      refine A_iload dX11_slow_300 rfl ?_
      obtain ⟨r36, M35, h1, h⟩ := bE_go h
      refine A_cSi1 dX11_slow_302 ml_X11_238 mb_X11_ones ms_X11_ones ⟨Nat.le_of_ble_eq_true rfl, Nat.le_of_ble_eq_true rfl⟩ (Nat.le_of_ble_eq_true rfl) (ok_X11_ones h1) ?_
      refine A_iload dX11_slow_305 rfl ?_
      obtain ⟨J37, hJ37, h⟩ := jn_go h
      have JJ37 : ∀ (y38 : Int32) (y39 : Int32) (M40 : Mem), J37 y38 y39 M40 = some (r, Mr) → AT l g RX11 cX11_slow 12 (some .int) (rmM 2 42) (PI r Mr) 375 [some (.ref (g.1 11)), some (.int v1), some (.int v2), some (.int v3), some (.int v4), some (.int v5), some (.int v6), some (.int y38), some (.int y39), some (.int v9), none, none] [] M40 := by
        intro y38 y39 M40 h
        rw [hJ37] at h
        refine A_iinc9 (d := 1) dX11_slow_375 (by decide) (by decide) rfl ?_
        refine A_goto dX11_slow_378 ?_
        exact A_le (lvLe_s (lvLe_s (lvLe_s (lvLe_s (lvLe_s (lvLe_s (lvLe_s (lvLe_s (lvLe_s (lvLe_s (lvLe_n (lvLe_n lvLe_0)))))))))))) (ih292 _ _ _ _ K292 h hK292)
      refine A_icmp_ne dX11_slow_307 (fun hc => ?_) (fun hc => ?_)
      · have h := gF_go hc h
        exact A_le (lvLe_s (lvLe_s (lvLe_s (lvLe_s (lvLe_s (lvLe_s (lvLe_s (lvLe_s (lvLe_s (lvLe_s (lvLe_n (lvLe_n lvLe_0)))))))))))) (JJ37 _ _ _ h)
      · have h := gT_go hc h
        refine A_iconst (v := 0) dX11_slow_310 (by decide) ?_
        refine A_istore10 dX11_slow_311 (by decide) rfl ?_
        refine A_iconst (v := 0) dX11_slow_313 (by decide) ?_
        refine A_istore11 dX11_slow_314 (by decide) rfl ?_
        refine f_X11_slow_L316_ok _ _ _ _ _ _ _ _ _ FU _ _ _ _ h (fun w44 w45 M46 h => ?_)
        refine A_iinc7 (d := 1) dX11_slow_355 (by decide) (by decide) rfl ?_
        refine A_iload dX11_slow_358 rfl ?_
        refine A_iload dX11_slow_360 rfl ?_
        refine A_iload dX11_slow_362 rfl ?_
        obtain ⟨J47, hJ47, h⟩ := jn_go h
        have JJ47 : ∀ (z48 : Int32), J47 z48 = some (r, Mr) → AT l g RX11 cX11_slow 12 (some .int) (rmM 2 42) (PI r Mr) 372 [some (.ref (g.1 11)), some (.int v1), some (.int v2), some (.int v3), some (.int v4), some (.int v5), some (.int v6), some (.int (v7 + (1 : Int32))), some (.int v8), some (.int v9), some (.int w44), some (.int w45)] [.int z48, .int v8] M46 := by
          intro z48 h
          rw [hJ47] at h
          refine A_iadd dX11_slow_372 ?_
          refine A_istore8 dX11_slow_373 (by decide) rfl (bI_go h (G := fun z => AT l g RX11 cX11_slow 12 (some .int) (rmM 2 42) (PI r Mr) 375 [some (.ref (g.1 11)), some (.int v1), some (.int v2), some (.int v3), some (.int v4), some (.int v5), some (.int v6), some (.int (v7 + (1 : Int32))), some (.int z), some (.int v9), some (.int w44), some (.int w45)] [] M46) (fun x49 h => ?_))
          exact A_le (lvLe_s (lvLe_s (lvLe_s (lvLe_s (lvLe_s (lvLe_s (lvLe_s (lvLe_s (lvLe_s (lvLe_s (lvLe_n (lvLe_n lvLe_0)))))))))))) (JJ37 _ _ _ h)
        refine A_icmp_lt dX11_slow_364 (fun hc => ?_) (fun hc => ?_)
        · have h := gT_go hc h
          refine A_iconst (v := 0) dX11_slow_371 (by decide) ?_
          exact A_le (lvLe_s (lvLe_s (lvLe_s (lvLe_s (lvLe_s (lvLe_s (lvLe_s (lvLe_s (lvLe_s (lvLe_s (lvLe_s (lvLe_s lvLe_0)))))))))))) (JJ47 _ h)
        · have h := gF_go hc h
          refine A_iconst (v := 1) dX11_slow_367 (by decide) ?_
          refine A_goto dX11_slow_368 ?_
          exact A_le (lvLe_s (lvLe_s (lvLe_s (lvLe_s (lvLe_s (lvLe_s (lvLe_s (lvLe_s (lvLe_s (lvLe_s (lvLe_s (lvLe_s lvLe_0)))))))))))) (JJ47 _ h)
def f_X11_slow (v1 : Int32) (v2 : Int32) (M : Mem) : Option Ret := bE (f_X11_isWorker v1 M) (fun r2 M1 => if r2 = 0 then (bE (f_X11_finding (1 : Int32) M1) (fun r4 M3 => some (r4, M3))) else (bE (f_X11_isJob v2 M1) (fun r6 M5 => if r6 = 0 then (bE (f_X11_finding (1 : Int32) M5) (fun r59 M58 => some (r59, M58))) else (f_X11_slow_L29 v1 v2 FU (0 : Int32) (0 : Int32) (0 : Int32) M5 (fun w15 w16 w17 M18 => bE (f_X11_ones w16 M18) (fun r20 M19 => if r20 = 0 then (bE (f_X11_finding (2 : Int32) M19) (fun r22 M21 => some (r22, M21))) else (if r20 = w15 then (bE (f_X11_finding (2 : Int32) M19) (fun r57 M56 => some (r57, M56))) else (f_X11_slow_L161 v1 v2 w15 w16 r20 FU (0 : Int32) (0 : Int32) M19 (fun w32 w33 M34 => f_X11_slow_L292 v1 v2 w15 w16 r20 w32 FU (0 : Int32) (0 : Int32) (0 : Int32) M34 (fun w50 w51 w52 M53 => jn (α := Int32 → Option Ret) (fun (z55 : Int32) => some (z55, M53)) (fun J54 => if w50 < ((20 : Int32) * w51) then (J54 (0 : Int32)) else (J54 (1 : Int32)))))))))))))
set_option maxRecDepth 100000 in
theorem ok_X11_slow {l : Launch} {g : Cx} {v1 : Int32} {v2 : Int32} {M : Mem} {r : Int32} {Mr : Mem} (h : f_X11_slow v1 v2 M = some (r, Mr)) : CT l g yX11_slow cX11_slow 12 (some .int) 2 42 [.ref (g.1 11), .int v1, .int v2] M (PI r Mr) := by
  refine CT_of (lv := [some (.ref (g.1 11)), some (.int v1), some (.int v2), none, none, none, none, none, none, none, none, none]) (by decide) rfl (Nat.le_of_ble_eq_true rfl) ?_
  unfold f_X11_slow at h
  refine A_iload_n dX11_slow_0 rfl ?_
  obtain ⟨r2, M1, h1, h⟩ := bE_go h
  refine A_cSi1 dX11_slow_1 ml_X11_217 mb_X11_isWorker ms_X11_isWorker ⟨Nat.le_of_ble_eq_true rfl, Nat.le_of_ble_eq_true rfl⟩ (Nat.le_of_ble_eq_true rfl) (ok_X11_isWorker h1) ?_
  refine A_if_eq dX11_slow_4 (fun hc => ?_) (fun hc => ?_)
  · have h := gT_go hc h
    refine A_aload_n dX11_slow_15 rfl ?_
    refine A_iconst (v := 1) dX11_slow_16 (by decide) ?_
    obtain ⟨r4, M3, h1, h⟩ := bE_go h
    refine A_cVi1 dX11_slow_17 ml_X11_137 mb_X11_finding mi_X11_finding ob11 rfl rfl ⟨Nat.le_of_ble_eq_true rfl, Nat.le_of_ble_eq_true rfl⟩ (Nat.le_of_ble_eq_true rfl) (ok_X11_finding h1) ?_
    exact A_iret dX11_slow_20 (pI_go h)
  · have h := gF_go hc h
    refine A_aload_n dX11_slow_7 rfl ?_
    refine A_iload_n dX11_slow_8 rfl ?_
    obtain ⟨r6, M5, h1, h⟩ := bE_go h
    refine A_cVi1 dX11_slow_9 ml_X11_176 mb_X11_isJob mi_X11_isJob ob11 rfl rfl ⟨Nat.le_of_ble_eq_true rfl, Nat.le_of_ble_eq_true rfl⟩ (Nat.le_of_ble_eq_true rfl) (ok_X11_isJob h1) ?_
    refine A_if_ne dX11_slow_12 (fun hc => ?_) (fun hc => ?_)
    · have h := gF_go hc h
      refine A_iconst (v := 0) dX11_slow_21 (by decide) ?_
      refine A_istoren3 dX11_slow_22 (by decide) rfl ?_
      refine A_iconst (v := 0) dX11_slow_23 (by decide) ?_
      refine A_istore4 dX11_slow_24 (by decide) rfl ?_
      refine A_iconst (v := 0) dX11_slow_26 (by decide) ?_
      refine A_istore5 dX11_slow_27 (by decide) rfl ?_
      refine f_X11_slow_L29_ok _ _ FU _ _ _ _ _ h (fun w15 w16 w17 M18 h => ?_)
      refine A_iload dX11_slow_131 rfl ?_
      obtain ⟨r20, M19, h1, h⟩ := bE_go h
      refine A_cSi1 dX11_slow_133 ml_X11_238 mb_X11_ones ms_X11_ones ⟨Nat.le_of_ble_eq_true rfl, Nat.le_of_ble_eq_true rfl⟩ (Nat.le_of_ble_eq_true rfl) (ok_X11_ones h1) ?_
      refine A_istore5 dX11_slow_136 (by decide) rfl ?_
      refine A_iload dX11_slow_138 rfl ?_
      refine A_if_eq dX11_slow_140 (fun hc => ?_) (fun hc => ?_)
      · have h := gT_go hc h
        refine A_aload_n dX11_slow_149 rfl ?_
        refine A_iconst (v := 2) dX11_slow_150 (by decide) ?_
        obtain ⟨r22, M21, h1, h⟩ := bE_go h
        refine A_cVi1 dX11_slow_151 ml_X11_137 mb_X11_finding mi_X11_finding ob11 rfl rfl ⟨Nat.le_of_ble_eq_true rfl, Nat.le_of_ble_eq_true rfl⟩ (Nat.le_of_ble_eq_true rfl) (ok_X11_finding h1) ?_
        exact A_iret dX11_slow_154 (pI_go h)
      · have h := gF_go hc h
        refine A_iload dX11_slow_143 rfl ?_
        refine A_iload_n dX11_slow_145 rfl ?_
        refine A_icmp_ne dX11_slow_146 (fun hc => ?_) (fun hc => ?_)
        · have h := gF_go hc h
          refine A_iconst (v := 0) dX11_slow_155 (by decide) ?_
          refine A_istore6 dX11_slow_156 (by decide) rfl ?_
          refine A_iconst (v := 0) dX11_slow_158 (by decide) ?_
          refine A_istore7 dX11_slow_159 (by decide) rfl ?_
          refine f_X11_slow_L161_ok _ _ _ _ _ FU _ _ _ _ h (fun w32 w33 M34 h => ?_)
          refine A_iconst (v := 0) dX11_slow_283 (by decide) ?_
          refine A_istore7 dX11_slow_284 (by decide) rfl ?_
          refine A_iconst (v := 0) dX11_slow_286 (by decide) ?_
          refine A_istore8 dX11_slow_287 (by decide) rfl ?_
          refine A_iconst (v := 0) dX11_slow_289 (by decide) ?_
          refine A_istore9 dX11_slow_290 (by decide) rfl ?_
          refine f_X11_slow_L292_ok _ _ _ _ _ _ FU _ _ _ _ _ h (fun w50 w51 w52 M53 h => ?_)
          refine A_bipush (v := 20) dX11_slow_381 (by decide) ?_
          refine A_iload dX11_slow_383 rfl ?_
          refine A_imul dX11_slow_385 ?_
          refine A_iload dX11_slow_386 rfl ?_
          obtain ⟨J54, hJ54, h⟩ := jn_go h
          have JJ54 : ∀ (z55 : Int32), J54 z55 = some (r, Mr) → AT l g RX11 cX11_slow 12 (some .int) (rmM 2 42) (PI r Mr) 396 [some (.ref (g.1 11)), some (.int v1), some (.int v2), some (.int w15), some (.int w16), some (.int r20), some (.int w32), some (.int w50), some (.int w51), some (.int w52), none, none] [.int z55] M53 := by
            intro z55 h
            rw [hJ54] at h
            exact A_iret dX11_slow_396 (pI_go h)
          refine A_icmp_gt dX11_slow_388 (fun hc => ?_) (fun hc => ?_)
          · have h := gT_go hc h
            refine A_iconst (v := 0) dX11_slow_395 (by decide) ?_
            exact A_le (lvLe_s (lvLe_s (lvLe_s (lvLe_s (lvLe_s (lvLe_s (lvLe_s (lvLe_s (lvLe_s (lvLe_s (lvLe_n (lvLe_n lvLe_0)))))))))))) (JJ54 _ h)
          · have h := gF_go hc h
            refine A_iconst (v := 1) dX11_slow_391 (by decide) ?_
            refine A_goto dX11_slow_392 ?_
            exact A_le (lvLe_s (lvLe_s (lvLe_s (lvLe_s (lvLe_s (lvLe_s (lvLe_s (lvLe_s (lvLe_s (lvLe_s (lvLe_n (lvLe_n lvLe_0)))))))))))) (JJ54 _ h)
        · have h := gT_go hc h
          refine A_aload_n dX11_slow_149 rfl ?_
          refine A_iconst (v := 2) dX11_slow_150 (by decide) ?_
          obtain ⟨r57, M56, h1, h⟩ := bE_go h
          refine A_cVi1 dX11_slow_151 ml_X11_137 mb_X11_finding mi_X11_finding ob11 rfl rfl ⟨Nat.le_of_ble_eq_true rfl, Nat.le_of_ble_eq_true rfl⟩ (Nat.le_of_ble_eq_true rfl) (ok_X11_finding h1) ?_
          exact A_iret dX11_slow_154 (pI_go h)
    · have h := gT_go hc h
      refine A_aload_n dX11_slow_15 rfl ?_
      refine A_iconst (v := 1) dX11_slow_16 (by decide) ?_
      obtain ⟨r59, M58, h1, h⟩ := bE_go h
      refine A_cVi1 dX11_slow_17 ml_X11_137 mb_X11_finding mi_X11_finding ob11 rfl rfl ⟨Nat.le_of_ble_eq_true rfl, Nat.le_of_ble_eq_true rfl⟩ (Nat.le_of_ble_eq_true rfl) (ok_X11_finding h1) ?_
      exact A_iret dX11_slow_20 (pI_go h)
-- BenchTimesModel.tell
theorem dX11_tell_0 : di cX11_tell 0 (.aload_n 0) 1 1 := ⟨by decide +kernel, rfl⟩
theorem dX11_tell_1 : di cX11_tell 1 (.getfield 245) 3 4 := ⟨by decide +kernel, rfl⟩
theorem dX11_tell_4 : di cX11_tell 4 (.bipush 8) 2 6 := ⟨by decide +kernel, rfl⟩
theorem dX11_tell_6 : dj cX11_tell 6 (.if_icmp .ne) 9 15 := ⟨9, by decide +kernel, rfl, rfl⟩
theorem dX11_tell_9 : di cX11_tell 9 (.aload_n 0) 1 10 := ⟨by decide +kernel, rfl⟩
theorem dX11_tell_10 : di cX11_tell 10 (.iconst 4) 1 11 := ⟨by decide +kernel, rfl⟩
theorem dX11_tell_11 : di cX11_tell 11 (.invokevirtual 137) 3 14 := ⟨by decide +kernel, rfl⟩
theorem dX11_tell_14 : di cX11_tell 14 (.ireturn) 1 15 := ⟨by decide +kernel, rfl⟩
theorem dX11_tell_15 : di cX11_tell 15 (.aload_n 0) 1 16 := ⟨by decide +kernel, rfl⟩
theorem dX11_tell_16 : di cX11_tell 16 (.getfield 102) 3 19 := ⟨by decide +kernel, rfl⟩
theorem dX11_tell_19 : di cX11_tell 19 (.aload_n 0) 1 20 := ⟨by decide +kernel, rfl⟩
theorem dX11_tell_20 : di cX11_tell 20 (.getfield 245) 3 23 := ⟨by decide +kernel, rfl⟩
theorem dX11_tell_23 : di cX11_tell 23 (.iload_n 1) 1 24 := ⟨by decide +kernel, rfl⟩
theorem dX11_tell_24 : di cX11_tell 24 (.iastore) 1 25 := ⟨by decide +kernel, rfl⟩
theorem dX11_tell_25 : di cX11_tell 25 (.aload_n 0) 1 26 := ⟨by decide +kernel, rfl⟩
theorem dX11_tell_26 : di cX11_tell 26 (.dup) 1 27 := ⟨by decide +kernel, rfl⟩
theorem dX11_tell_27 : di cX11_tell 27 (.getfield 245) 3 30 := ⟨by decide +kernel, rfl⟩
theorem dX11_tell_30 : di cX11_tell 30 (.iconst 1) 1 31 := ⟨by decide +kernel, rfl⟩
theorem dX11_tell_31 : di cX11_tell 31 (.iadd) 1 32 := ⟨by decide +kernel, rfl⟩
theorem dX11_tell_32 : di cX11_tell 32 (.putfield 245) 3 35 := ⟨by decide +kernel, rfl⟩
theorem dX11_tell_35 : di cX11_tell 35 (.aload_n 0) 1 36 := ⟨by decide +kernel, rfl⟩
theorem dX11_tell_36 : di cX11_tell 36 (.getfield 245) 3 39 := ⟨by decide +kernel, rfl⟩
theorem dX11_tell_39 : di cX11_tell 39 (.ireturn) 1 40 := ⟨by decide +kernel, rfl⟩
def f_X11_tell (v1 : Int32) (M : Mem) : Option Ret := if (M.1 11 39) = (8 : Int32) then (bE (f_X11_finding (4 : Int32) M) (fun r4 M3 => some (r4, M3))) else (gV (M.1 11 39) 8 (bM (up2 M 94 (M.1 11 39).toNatClampNeg v1) (fun M1 => bM (up2 M1 11 39 ((M1.1 11 39) + (1 : Int32))) (fun M2 => some (M2.1 11 39, M2)))))
set_option maxRecDepth 100000 in
theorem ok_X11_tell {l : Launch} {g : Cx} {v1 : Int32} {M : Mem} {r : Int32} {Mr : Mem} (h : f_X11_tell v1 M = some (r, Mr)) : CT l g yX11_tell cX11_tell 2 (some .int) 1 21 [.ref (g.1 11), .int v1] M (PI r Mr) := by
  refine CT_of (lv := [some (.ref (g.1 11)), some (.int v1)]) (by decide) rfl (Nat.le_of_ble_eq_true rfl) ?_
  unfold f_X11_tell at h
  refine A_aload_n dX11_tell_0 rfl ?_
  refine A_getf dX11_tell_1 fw_X11_245 ob11 rfl ?_
  refine A_bipush (v := 8) dX11_tell_4 (by decide) ?_
  refine A_icmp_ne dX11_tell_6 (fun hc => ?_) (fun hc => ?_)
  · have h := gF_go hc h
    refine A_aload_n dX11_tell_15 rfl ?_
    refine A_getf dX11_tell_16 fw_X11_102 ob11 rfl ?_
    refine A_aload_n dX11_tell_19 rfl ?_
    refine A_getf dX11_tell_20 fw_X11_245 ob11 rfl ?_
    refine A_iload_n dX11_tell_23 rfl ?_
    obtain ⟨hg, h⟩ := gV_go h
    refine A_iast dX11_tell_24 ia94 hg (bM_go h (fun M1 h => ?_))
    refine A_aload_n dX11_tell_25 rfl ?_
    refine A_dup dX11_tell_26 rfl ?_
    refine A_getf dX11_tell_27 fw_X11_245 ob11 rfl ?_
    refine A_iconst (v := 1) dX11_tell_30 (by decide) ?_
    refine A_iadd dX11_tell_31 ?_
    refine A_putf dX11_tell_32 pw_X11_245 ob11 pf11_39 (Nat.le_of_ble_eq_true rfl) (bM_go h (fun M2 h => ?_))
    refine A_aload_n dX11_tell_35 rfl ?_
    refine A_getf dX11_tell_36 fw_X11_245 ob11 rfl ?_
    exact A_iret dX11_tell_39 (pI_go h)
  · have h := gT_go hc h
    refine A_aload_n dX11_tell_9 rfl ?_
    refine A_iconst (v := 4) dX11_tell_10 (by decide) ?_
    obtain ⟨r4, M3, h1, h⟩ := bE_go h
    refine A_cVi1 dX11_tell_11 ml_X11_137 mb_X11_finding mi_X11_finding ob11 rfl rfl ⟨Nat.le_of_ble_eq_true rfl, Nat.le_of_ble_eq_true rfl⟩ (Nat.le_of_ble_eq_true rfl) (ok_X11_finding h1) ?_
    exact A_iret dX11_tell_14 (pI_go h)
-- BenchTimesModel.check
theorem dX11_check_0 : di cX11_check 0 (.aload_n 0) 1 1 := ⟨by decide +kernel, rfl⟩
theorem dX11_check_1 : di cX11_check 1 (.getfield 245) 3 4 := ⟨by decide +kernel, rfl⟩
theorem dX11_check_4 : di cX11_check 4 (.istore_n 2) 1 5 := ⟨by decide +kernel, rfl⟩
theorem dX11_check_5 : di cX11_check 5 (.aload_n 0) 1 6 := ⟨by decide +kernel, rfl⟩
theorem dX11_check_6 : di cX11_check 6 (.iconst 0) 1 7 := ⟨by decide +kernel, rfl⟩
theorem dX11_check_7 : di cX11_check 7 (.putfield 245) 3 10 := ⟨by decide +kernel, rfl⟩
theorem dX11_check_10 : di cX11_check 10 (.iload_n 1) 1 11 := ⟨by decide +kernel, rfl⟩
theorem dX11_check_11 : di cX11_check 11 (.invokestatic 192) 3 14 := ⟨by decide +kernel, rfl⟩
theorem dX11_check_14 : dj cX11_check 14 (.ifCond .ne) 17 23 := ⟨9, by decide +kernel, rfl, rfl⟩
theorem dX11_check_17 : di cX11_check 17 (.aload_n 0) 1 18 := ⟨by decide +kernel, rfl⟩
theorem dX11_check_18 : di cX11_check 18 (.iconst 1) 1 19 := ⟨by decide +kernel, rfl⟩
theorem dX11_check_19 : di cX11_check 19 (.invokevirtual 137) 3 22 := ⟨by decide +kernel, rfl⟩
theorem dX11_check_22 : di cX11_check 22 (.ireturn) 1 23 := ⟨by decide +kernel, rfl⟩
theorem dX11_check_23 : di cX11_check 23 (.iconst 0) 1 24 := ⟨by decide +kernel, rfl⟩
theorem dX11_check_24 : di cX11_check 24 (.istore_n 3) 1 25 := ⟨by decide +kernel, rfl⟩
theorem dX11_check_25 : di cX11_check 25 (.iload_n 3) 1 26 := ⟨by decide +kernel, rfl⟩
theorem dX11_check_26 : di cX11_check 26 (.iload_n 2) 1 27 := ⟨by decide +kernel, rfl⟩
theorem dX11_check_27 : dj cX11_check 27 (.if_icmp .ge) 30 56 := ⟨29, by decide +kernel, rfl, rfl⟩
theorem dX11_check_30 : di cX11_check 30 (.aload_n 0) 1 31 := ⟨by decide +kernel, rfl⟩
theorem dX11_check_31 : di cX11_check 31 (.getfield 102) 3 34 := ⟨by decide +kernel, rfl⟩
theorem dX11_check_34 : di cX11_check 34 (.iload_n 3) 1 35 := ⟨by decide +kernel, rfl⟩
theorem dX11_check_35 : di cX11_check 35 (.iaload) 1 36 := ⟨by decide +kernel, rfl⟩
theorem dX11_check_36 : di cX11_check 36 (.aload_n 0) 1 37 := ⟨by decide +kernel, rfl⟩
theorem dX11_check_37 : di cX11_check 37 (.iload_n 3) 1 38 := ⟨by decide +kernel, rfl⟩
theorem dX11_check_38 : di cX11_check 38 (.iload_n 1) 1 39 := ⟨by decide +kernel, rfl⟩
theorem dX11_check_39 : di cX11_check 39 (.iconst 0) 1 40 := ⟨by decide +kernel, rfl⟩
theorem dX11_check_40 : di cX11_check 40 (.invokevirtual 230) 3 43 := ⟨by decide +kernel, rfl⟩
theorem dX11_check_43 : dj cX11_check 43 (.if_icmp .eq) 46 50 := ⟨7, by decide +kernel, rfl, rfl⟩
theorem dX11_check_46 : di cX11_check 46 (.iconst 1) 1 47 := ⟨by decide +kernel, rfl⟩
theorem dX11_check_47 : di cX11_check 47 (.iload_n 3) 1 48 := ⟨by decide +kernel, rfl⟩
theorem dX11_check_48 : di cX11_check 48 (.iadd) 1 49 := ⟨by decide +kernel, rfl⟩
theorem dX11_check_49 : di cX11_check 49 (.ireturn) 1 50 := ⟨by decide +kernel, rfl⟩
theorem dX11_check_50 : di cX11_check 50 (.iinc 3 1) 3 53 := ⟨by decide +kernel, rfl⟩
theorem dX11_check_53 : dj cX11_check 53 .goto 56 25 := ⟨-28, by decide +kernel, rfl, rfl⟩
theorem dX11_check_56 : di cX11_check 56 (.iconst 0) 1 57 := ⟨by decide +kernel, rfl⟩
theorem dX11_check_57 : di cX11_check 57 (.ireturn) 1 58 := ⟨by decide +kernel, rfl⟩
def f_X11_check_L25 (v1 : Int32) (v2 : Int32) : Nat → Int32 → Mem → (Int32 → Mem → Option Ret) → Option Ret
  | 0, _, _, _ => none
  | k25 + 1, v3, M, K25 => if v2 ≤ v3 then (K25 v3 M) else (gV v3 8 (bE (f_X11_payOf v3 v1 (0 : Int32) M) (fun r6 M5 => if (M.1 94 v3.toNatClampNeg) = r6 then (f_X11_check_L25 v1 v2 k25 (v3 + (1 : Int32)) M5 K25) else (some ((1 : Int32) + v3, M5)))))
set_option maxRecDepth 100000 in
theorem f_X11_check_L25_ok {l : Launch} {g : Cx} (v1 : Int32) (v2 : Int32)  {r : Int32} {Mr : Mem} : ∀ (k : Nat) (v3 : Int32) (M : Mem) (K25 : Int32 → Mem → Option Ret), f_X11_check_L25 v1 v2 k v3 M K25 = some (r, Mr) → (∀ (v3 : Int32) (M : Mem), K25 v3 M = some (r, Mr) → AT l g RX11 cX11_check 4 (some .int) (rmM 3 77) (PI r Mr) 56 [some (.ref (g.1 11)), some (.int v1), some (.int v2), some (.int v3)] [] M) → AT l g RX11 cX11_check 4 (some .int) (rmM 3 77) (PI r Mr) 25 [some (.ref (g.1 11)), some (.int v1), some (.int v2), some (.int v3)] [] M
  | 0, v3, M, K25, h, hK25 => by cases h
  | k25 + 1, v3, M, K25, h, hK25 => by
    have ih25 := f_X11_check_L25_ok (l := l) (g := g) v1 v2 (r := r) (Mr := Mr) k25
    rw [f_X11_check_L25] at h
    refine A_iload_n dX11_check_25 rfl ?_
    refine A_iload_n dX11_check_26 rfl ?_
    refine A_icmp_ge dX11_check_27 (fun hc => ?_) (fun hc => ?_)
    · have h := gT_go hc h
      exact A_le (lvLe_s (lvLe_s (lvLe_s (lvLe_s lvLe_0)))) (hK25 _ _ h)
    · have h := gF_go hc h
      refine A_aload_n dX11_check_30 rfl ?_
      refine A_getf dX11_check_31 fw_X11_102 ob11 rfl ?_
      refine A_iload_n dX11_check_34 rfl ?_
      obtain ⟨hg, h⟩ := gV_go h
      refine A_iald dX11_check_35 ia94 hg ?_
      refine A_aload_n dX11_check_36 rfl ?_
      refine A_iload_n dX11_check_37 rfl ?_
      refine A_iload_n dX11_check_38 rfl ?_
      refine A_iconst (v := 0) dX11_check_39 (by decide) ?_
      obtain ⟨r6, M5, h1, h⟩ := bE_go h
      refine A_cVi3 dX11_check_40 ml_X11_230 mb_X11_payOf mi_X11_payOf ob11 rfl rfl ⟨Nat.le_of_ble_eq_true rfl, Nat.le_of_ble_eq_true rfl⟩ (Nat.le_of_ble_eq_true rfl) (ok_X11_payOf h1) ?_
      refine A_icmp_eq dX11_check_43 (fun hc => ?_) (fun hc => ?_)
      · have h := gT_go hc h
        refine A_iinc3 (d := 1) dX11_check_50 (by decide) (by decide) rfl ?_
        refine A_goto dX11_check_53 ?_
        exact A_le (lvLe_s (lvLe_s (lvLe_s (lvLe_s lvLe_0)))) (ih25 _ _ K25 h hK25)
      · have h := gF_go hc h
        refine A_iconst (v := 1) dX11_check_46 (by decide) ?_
        refine A_iload_n dX11_check_47 rfl ?_
        refine A_iadd dX11_check_48 ?_
        exact A_iret dX11_check_49 (pI_go h)
def f_X11_check (v1 : Int32) (M : Mem) : Option Ret := bI (M.1 11 39) (fun x1 => bM (up2 M 11 39 (0 : Int32)) (fun M2 => bE (f_X11_isWeek v1 M2) (fun r4 M3 => if r4 = 0 then (bE (f_X11_finding (1 : Int32) M3) (fun r10 M9 => some (r10, M9))) else (f_X11_check_L25 v1 x1 FU (0 : Int32) M3 (fun w7 M8 => some ((0 : Int32), M8))))))
set_option maxRecDepth 100000 in
theorem ok_X11_check {l : Launch} {g : Cx} {v1 : Int32} {M : Mem} {r : Int32} {Mr : Mem} (h : f_X11_check v1 M = some (r, Mr)) : CT l g yX11_check cX11_check 4 (some .int) 3 77 [.ref (g.1 11), .int v1] M (PI r Mr) := by
  refine CT_of (lv := [some (.ref (g.1 11)), some (.int v1), none, none]) (by decide) rfl (Nat.le_of_ble_eq_true rfl) ?_
  unfold f_X11_check at h
  refine A_aload_n dX11_check_0 rfl ?_
  refine A_getf dX11_check_1 fw_X11_245 ob11 rfl ?_
  refine A_istoren2 dX11_check_4 (by decide) rfl (bI_go h (G := fun z => AT l g RX11 cX11_check 4 (some .int) (rmM 3 77) (PI r Mr) 5 [some (.ref (g.1 11)), some (.int v1), some (.int z), none] [] M) (fun x1 h => ?_))
  refine A_aload_n dX11_check_5 rfl ?_
  refine A_iconst (v := 0) dX11_check_6 (by decide) ?_
  refine A_putf dX11_check_7 pw_X11_245 ob11 pf11_39 (Nat.le_of_ble_eq_true rfl) (bM_go h (fun M2 h => ?_))
  refine A_iload_n dX11_check_10 rfl ?_
  obtain ⟨r4, M3, h1, h⟩ := bE_go h
  refine A_cSi1 dX11_check_11 ml_X11_192 mb_X11_isWeek ms_X11_isWeek ⟨Nat.le_of_ble_eq_true rfl, Nat.le_of_ble_eq_true rfl⟩ (Nat.le_of_ble_eq_true rfl) (ok_X11_isWeek h1) ?_
  refine A_if_ne dX11_check_14 (fun hc => ?_) (fun hc => ?_)
  · have h := gF_go hc h
    refine A_iconst (v := 0) dX11_check_23 (by decide) ?_
    refine A_istoren3 dX11_check_24 (by decide) rfl ?_
    refine f_X11_check_L25_ok _ _ FU _ _ _ h (fun w7 M8 h => ?_)
    refine A_iconst (v := 0) dX11_check_56 (by decide) ?_
    exact A_iret dX11_check_57 (pI_go h)
  · have h := gT_go hc h
    refine A_aload_n dX11_check_17 rfl ?_
    refine A_iconst (v := 1) dX11_check_18 (by decide) ?_
    obtain ⟨r10, M9, h1, h⟩ := bE_go h
    refine A_cVi1 dX11_check_19 ml_X11_137 mb_X11_finding mi_X11_finding ob11 rfl rfl ⟨Nat.le_of_ble_eq_true rfl, Nat.le_of_ble_eq_true rfl⟩ (Nat.le_of_ble_eq_true rfl) (ok_X11_finding h1) ?_
    exact A_iret dX11_check_22 (pI_go h)
-- BenchTimesModel.count
theorem dX11_count_0 : di cX11_count 0 (.iload_n 1) 1 1 := ⟨by decide +kernel, rfl⟩
theorem dX11_count_1 : dts cX11_count 1 (0) (9) 106 [56, 61, 66, 71, 76, 81, 86, 91, 96, 101] := ⟨105, #[55, 60, 65, 70, 75, 80, 85, 90, 95, 100], 55, by decide +kernel, rfl, by decide +kernel⟩
theorem dX11_count_56 : di cX11_count 56 (.aload_n 0) 1 57 := ⟨by decide +kernel, rfl⟩
theorem dX11_count_57 : di cX11_count 57 (.getfield 127) 3 60 := ⟨by decide +kernel, rfl⟩
theorem dX11_count_60 : di cX11_count 60 (.ireturn) 1 61 := ⟨by decide +kernel, rfl⟩
theorem dX11_count_61 : di cX11_count 61 (.aload_n 0) 1 62 := ⟨by decide +kernel, rfl⟩
theorem dX11_count_62 : di cX11_count 62 (.getfield 157) 3 65 := ⟨by decide +kernel, rfl⟩
theorem dX11_count_65 : di cX11_count 65 (.ireturn) 1 66 := ⟨by decide +kernel, rfl⟩
theorem dX11_count_66 : di cX11_count 66 (.aload_n 0) 1 67 := ⟨by decide +kernel, rfl⟩
theorem dX11_count_67 : di cX11_count 67 (.getfield 151) 3 70 := ⟨by decide +kernel, rfl⟩
theorem dX11_count_70 : di cX11_count 70 (.ireturn) 1 71 := ⟨by decide +kernel, rfl⟩
theorem dX11_count_71 : di cX11_count 71 (.aload_n 0) 1 72 := ⟨by decide +kernel, rfl⟩
theorem dX11_count_72 : di cX11_count 72 (.getfield 130) 3 75 := ⟨by decide +kernel, rfl⟩
theorem dX11_count_75 : di cX11_count 75 (.ireturn) 1 76 := ⟨by decide +kernel, rfl⟩
theorem dX11_count_76 : di cX11_count 76 (.aload_n 0) 1 77 := ⟨by decide +kernel, rfl⟩
theorem dX11_count_77 : di cX11_count 77 (.getfield 173) 3 80 := ⟨by decide +kernel, rfl⟩
theorem dX11_count_80 : di cX11_count 80 (.ireturn) 1 81 := ⟨by decide +kernel, rfl⟩
theorem dX11_count_81 : di cX11_count 81 (.aload_n 0) 1 82 := ⟨by decide +kernel, rfl⟩
theorem dX11_count_82 : di cX11_count 82 (.getfield 185) 3 85 := ⟨by decide +kernel, rfl⟩
theorem dX11_count_85 : di cX11_count 85 (.ireturn) 1 86 := ⟨by decide +kernel, rfl⟩
theorem dX11_count_86 : di cX11_count 86 (.aload_n 0) 1 87 := ⟨by decide +kernel, rfl⟩
theorem dX11_count_87 : di cX11_count 87 (.getfield 221) 3 90 := ⟨by decide +kernel, rfl⟩
theorem dX11_count_90 : di cX11_count 90 (.ireturn) 1 91 := ⟨by decide +kernel, rfl⟩
theorem dX11_count_91 : di cX11_count 91 (.aload_n 0) 1 92 := ⟨by decide +kernel, rfl⟩
theorem dX11_count_92 : di cX11_count 92 (.getfield 224) 3 95 := ⟨by decide +kernel, rfl⟩
theorem dX11_count_95 : di cX11_count 95 (.ireturn) 1 96 := ⟨by decide +kernel, rfl⟩
theorem dX11_count_96 : di cX11_count 96 (.aload_n 0) 1 97 := ⟨by decide +kernel, rfl⟩
theorem dX11_count_97 : di cX11_count 97 (.getfield 198) 3 100 := ⟨by decide +kernel, rfl⟩
theorem dX11_count_100 : di cX11_count 100 (.ireturn) 1 101 := ⟨by decide +kernel, rfl⟩
theorem dX11_count_101 : di cX11_count 101 (.aload_n 0) 1 102 := ⟨by decide +kernel, rfl⟩
theorem dX11_count_102 : di cX11_count 102 (.getfield 245) 3 105 := ⟨by decide +kernel, rfl⟩
theorem dX11_count_105 : di cX11_count 105 (.ireturn) 1 106 := ⟨by decide +kernel, rfl⟩
theorem dX11_count_106 : di cX11_count 106 (.aload_n 0) 1 107 := ⟨by decide +kernel, rfl⟩
theorem dX11_count_107 : di cX11_count 107 (.iconst 1) 1 108 := ⟨by decide +kernel, rfl⟩
theorem dX11_count_108 : di cX11_count 108 (.invokevirtual 137) 3 111 := ⟨by decide +kernel, rfl⟩
theorem dX11_count_111 : di cX11_count 111 (.ireturn) 1 112 := ⟨by decide +kernel, rfl⟩
def f_X11_count (v1 : Int32) (M : Mem) : Option Ret := if v1 = (0 : Int32) then (some (M.1 11 0, M)) else (if v1 = (1 : Int32) then (some (M.1 11 7, M)) else (if v1 = (2 : Int32) then (some (M.1 11 4, M)) else (if v1 = (3 : Int32) then (some (M.1 11 12, M)) else (if v1 = (4 : Int32) then (some (M.1 11 17, M)) else (if v1 = (5 : Int32) then (some (M.1 11 21, M)) else (if v1 = (6 : Int32) then (some (M.1 11 25, M)) else (if v1 = (7 : Int32) then (some (M.1 11 33, M)) else (if v1 = (8 : Int32) then (some (M.1 11 24, M)) else (if v1 = (9 : Int32) then (some (M.1 11 39, M)) else (bE (f_X11_finding (1 : Int32) M) (fun r2 M1 => some (r2, M1))))))))))))
set_option maxRecDepth 100000 in
theorem ok_X11_count {l : Launch} {g : Cx} {v1 : Int32} {M : Mem} {r : Int32} {Mr : Mem} (h : f_X11_count v1 M = some (r, Mr)) : CT l g yX11_count cX11_count 2 (some .int) 1 21 [.ref (g.1 11), .int v1] M (PI r Mr) := by
  refine CT_of (lv := [some (.ref (g.1 11)), some (.int v1)]) (by decide) rfl (Nat.le_of_ble_eq_true rfl) ?_
  unfold f_X11_count at h
  refine A_iload_n dX11_count_0 rfl ?_
  by_cases hc0 : v1 = (0 : Int32)
  · have h := gT_go hc0 h
    refine A_tsIn (k0 := 0) dX11_count_1 (by rw [hc0]; decide) rfl ?_
    refine A_aload_n dX11_count_56 rfl ?_
    refine A_getf dX11_count_57 fw_X11_127 ob11 rfl ?_
    exact A_iret dX11_count_60 (pI_go h)
  have h := gF_go hc0 h
  by_cases hc1 : v1 = (1 : Int32)
  · have h := gT_go hc1 h
    refine A_tsIn (k0 := 1) dX11_count_1 (by rw [hc1]; decide) rfl ?_
    refine A_aload_n dX11_count_61 rfl ?_
    refine A_getf dX11_count_62 fw_X11_157 ob11 rfl ?_
    exact A_iret dX11_count_65 (pI_go h)
  have h := gF_go hc1 h
  by_cases hc2 : v1 = (2 : Int32)
  · have h := gT_go hc2 h
    refine A_tsIn (k0 := 2) dX11_count_1 (by rw [hc2]; decide) rfl ?_
    refine A_aload_n dX11_count_66 rfl ?_
    refine A_getf dX11_count_67 fw_X11_151 ob11 rfl ?_
    exact A_iret dX11_count_70 (pI_go h)
  have h := gF_go hc2 h
  by_cases hc3 : v1 = (3 : Int32)
  · have h := gT_go hc3 h
    refine A_tsIn (k0 := 3) dX11_count_1 (by rw [hc3]; decide) rfl ?_
    refine A_aload_n dX11_count_71 rfl ?_
    refine A_getf dX11_count_72 fw_X11_130 ob11 rfl ?_
    exact A_iret dX11_count_75 (pI_go h)
  have h := gF_go hc3 h
  by_cases hc4 : v1 = (4 : Int32)
  · have h := gT_go hc4 h
    refine A_tsIn (k0 := 4) dX11_count_1 (by rw [hc4]; decide) rfl ?_
    refine A_aload_n dX11_count_76 rfl ?_
    refine A_getf dX11_count_77 fw_X11_173 ob11 rfl ?_
    exact A_iret dX11_count_80 (pI_go h)
  have h := gF_go hc4 h
  by_cases hc5 : v1 = (5 : Int32)
  · have h := gT_go hc5 h
    refine A_tsIn (k0 := 5) dX11_count_1 (by rw [hc5]; decide) rfl ?_
    refine A_aload_n dX11_count_81 rfl ?_
    refine A_getf dX11_count_82 fw_X11_185 ob11 rfl ?_
    exact A_iret dX11_count_85 (pI_go h)
  have h := gF_go hc5 h
  by_cases hc6 : v1 = (6 : Int32)
  · have h := gT_go hc6 h
    refine A_tsIn (k0 := 6) dX11_count_1 (by rw [hc6]; decide) rfl ?_
    refine A_aload_n dX11_count_86 rfl ?_
    refine A_getf dX11_count_87 fw_X11_221 ob11 rfl ?_
    exact A_iret dX11_count_90 (pI_go h)
  have h := gF_go hc6 h
  by_cases hc7 : v1 = (7 : Int32)
  · have h := gT_go hc7 h
    refine A_tsIn (k0 := 7) dX11_count_1 (by rw [hc7]; decide) rfl ?_
    refine A_aload_n dX11_count_91 rfl ?_
    refine A_getf dX11_count_92 fw_X11_224 ob11 rfl ?_
    exact A_iret dX11_count_95 (pI_go h)
  have h := gF_go hc7 h
  by_cases hc8 : v1 = (8 : Int32)
  · have h := gT_go hc8 h
    refine A_tsIn (k0 := 8) dX11_count_1 (by rw [hc8]; decide) rfl ?_
    refine A_aload_n dX11_count_96 rfl ?_
    refine A_getf dX11_count_97 fw_X11_198 ob11 rfl ?_
    exact A_iret dX11_count_100 (pI_go h)
  have h := gF_go hc8 h
  by_cases hc9 : v1 = (9 : Int32)
  · have h := gT_go hc9 h
    refine A_tsIn (k0 := 9) dX11_count_1 (by rw [hc9]; decide) rfl ?_
    refine A_aload_n dX11_count_101 rfl ?_
    refine A_getf dX11_count_102 fw_X11_245 ob11 rfl ?_
    exact A_iret dX11_count_105 (pI_go h)
  have h := gF_go hc9 h
  refine A_tsOut dX11_count_1 (tsw_out (fun k h1 h2 => ?_)) ?_
  · rcases (show k = 0 ∨ k = 1 ∨ k = 2 ∨ k = 3 ∨ k = 4 ∨ k = 5 ∨ k = 6 ∨ k = 7 ∨ k = 8 ∨ k = 9 by omega) with rfl | rfl | rfl | rfl | rfl | rfl | rfl | rfl | rfl | rfl
    · exact hc0
    · exact hc1
    · exact hc2
    · exact hc3
    · exact hc4
    · exact hc5
    · exact hc6
    · exact hc7
    · exact hc8
    · exact hc9
  · refine A_aload_n dX11_count_106 rfl ?_
    refine A_iconst (v := 1) dX11_count_107 (by decide) ?_
    obtain ⟨r2, M1, h1, h⟩ := bE_go h
    refine A_cVi1 dX11_count_108 ml_X11_137 mb_X11_finding mi_X11_finding ob11 rfl rfl ⟨Nat.le_of_ble_eq_true rfl, Nat.le_of_ble_eq_true rfl⟩ (Nat.le_of_ble_eq_true rfl) (ok_X11_finding h1) ?_
    exact A_iret dX11_count_111 (pI_go h)
-- BenchTimesModel.found
theorem dX11_found_0 : di cX11_found 0 (.iload_n 1) 1 1 := ⟨by decide +kernel, rfl⟩
theorem dX11_found_1 : di cX11_found 1 (.iconst 1) 1 2 := ⟨by decide +kernel, rfl⟩
theorem dX11_found_2 : di cX11_found 2 (.iconst 5) 1 3 := ⟨by decide +kernel, rfl⟩
theorem dX11_found_3 : di cX11_found 3 (.invokestatic 133) 3 6 := ⟨by decide +kernel, rfl⟩
theorem dX11_found_6 : dj cX11_found 6 (.ifCond .eq) 9 18 := ⟨12, by decide +kernel, rfl, rfl⟩
theorem dX11_found_9 : di cX11_found 9 (.aload_n 0) 1 10 := ⟨by decide +kernel, rfl⟩
theorem dX11_found_10 : di cX11_found 10 (.getfield 105) 3 13 := ⟨by decide +kernel, rfl⟩
theorem dX11_found_13 : di cX11_found 13 (.iload_n 1) 1 14 := ⟨by decide +kernel, rfl⟩
theorem dX11_found_14 : di cX11_found 14 (.iaload) 1 15 := ⟨by decide +kernel, rfl⟩
theorem dX11_found_15 : dj cX11_found 15 .goto 18 23 := ⟨8, by decide +kernel, rfl, rfl⟩
theorem dX11_found_18 : di cX11_found 18 (.aload_n 0) 1 19 := ⟨by decide +kernel, rfl⟩
theorem dX11_found_19 : di cX11_found 19 (.iconst 1) 1 20 := ⟨by decide +kernel, rfl⟩
theorem dX11_found_20 : di cX11_found 20 (.invokevirtual 137) 3 23 := ⟨by decide +kernel, rfl⟩
theorem dX11_found_23 : di cX11_found 23 (.ireturn) 1 24 := ⟨by decide +kernel, rfl⟩
def f_X11_found (v1 : Int32) (M : Mem) : Option Ret := bE (f_X11_isIn v1 (1 : Int32) (5 : Int32) M) (fun r2 M1 => jn (α := Int32 → Mem → Option Ret) (fun (z4 : Int32) (M5 : Mem) => some (z4, M5)) (fun J3 => if r2 = 0 then (bE (f_X11_finding (1 : Int32) M1) (fun r7 M6 => J3 r7 M6)) else (gV v1 6 (J3 (M1.1 95 v1.toNatClampNeg) M1))))
set_option maxRecDepth 100000 in
theorem ok_X11_found {l : Launch} {g : Cx} {v1 : Int32} {M : Mem} {r : Int32} {Mr : Mem} (h : f_X11_found v1 M = some (r, Mr)) : CT l g yX11_found cX11_found 2 (some .int) 1 22 [.ref (g.1 11), .int v1] M (PI r Mr) := by
  refine CT_of (lv := [some (.ref (g.1 11)), some (.int v1)]) (by decide) rfl (Nat.le_of_ble_eq_true rfl) ?_
  unfold f_X11_found at h
  refine A_iload_n dX11_found_0 rfl ?_
  refine A_iconst (v := 1) dX11_found_1 (by decide) ?_
  refine A_iconst (v := 5) dX11_found_2 (by decide) ?_
  obtain ⟨r2, M1, h1, h⟩ := bE_go h
  refine A_cSi3 dX11_found_3 ml_X11_133 mb_X11_isIn ms_X11_isIn ⟨Nat.le_of_ble_eq_true rfl, Nat.le_of_ble_eq_true rfl⟩ (Nat.le_of_ble_eq_true rfl) (ok_X11_isIn h1) ?_
  obtain ⟨J3, hJ3, h⟩ := jn_go h
  have JJ3 : ∀ (z4 : Int32) (M5 : Mem), J3 z4 M5 = some (r, Mr) → AT l g RX11 cX11_found 2 (some .int) (rmM 1 22) (PI r Mr) 23 [some (.ref (g.1 11)), some (.int v1)] [.int z4] M5 := by
    intro z4 M5 h
    rw [hJ3] at h
    exact A_iret dX11_found_23 (pI_go h)
  refine A_if_eq dX11_found_6 (fun hc => ?_) (fun hc => ?_)
  · have h := gT_go hc h
    refine A_aload_n dX11_found_18 rfl ?_
    refine A_iconst (v := 1) dX11_found_19 (by decide) ?_
    obtain ⟨r7, M6, h1, h⟩ := bE_go h
    refine A_cVi1 dX11_found_20 ml_X11_137 mb_X11_finding mi_X11_finding ob11 rfl rfl ⟨Nat.le_of_ble_eq_true rfl, Nat.le_of_ble_eq_true rfl⟩ (Nat.le_of_ble_eq_true rfl) (ok_X11_finding h1) ?_
    exact A_le (lvLe_s (lvLe_s lvLe_0)) (JJ3 _ _ h)
  · have h := gF_go hc h
    refine A_aload_n dX11_found_9 rfl ?_
    refine A_getf dX11_found_10 fw_X11_105 ob11 rfl ?_
    refine A_iload_n dX11_found_13 rfl ?_
    obtain ⟨hg, h⟩ := gV_go h
    refine A_iald dX11_found_14 ia95 hg ?_
    refine A_goto dX11_found_15 ?_
    exact A_le (lvLe_s (lvLe_s lvLe_0)) (JJ3 _ _ h)
