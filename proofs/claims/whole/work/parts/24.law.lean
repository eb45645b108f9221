set_option maxRecDepth 100000 in
theorem mlL_13 : Cond.methodLink R_law 13 yX10_element ∈ gd := gd_2 106 ⟨rfl, rfl⟩
set_option maxRecDepth 100000 in
theorem mlL_17 : Cond.methodLink R_law 17 yX11_element ∈ gd := gd_5 202 ⟨rfl, rfl⟩
set_option maxRecDepth 100000 in
theorem mlL_18 : Cond.methodLink R_law 18 yX10_as ∈ gd := gd_2 129 ⟨rfl, rfl⟩
set_option maxRecDepth 100000 in
theorem mlL_22 : Cond.methodLink R_law 22 yX11_as ∈ gd := gd_5 214 ⟨rfl, rfl⟩
set_option maxRecDepth 100000 in
theorem mlL_23 : Cond.methodLink R_law 23 yX10_allow ∈ gd := gd_2 147 ⟨rfl, rfl⟩
set_option maxRecDepth 100000 in
theorem mlL_26 : Cond.methodLink R_law 26 yX11_allow ∈ gd := gd_5 226 ⟨rfl, rfl⟩
set_option maxRecDepth 100000 in
theorem mlL_27 : Cond.methodLink R_law 27 yX10_film ∈ gd := gd_2 156 ⟨rfl, rfl⟩
set_option maxRecDepth 100000 in
theorem mlL_31 : Cond.methodLink R_law 31 yX11_film ∈ gd := gd_5 230 ⟨rfl, rfl⟩
set_option maxRecDepth 100000 in
theorem mlL_32 : Cond.methodLink R_law 32 yX10_habit ∈ gd := gd_2 174 ⟨rfl, rfl⟩
set_option maxRecDepth 100000 in
theorem mlL_35 : Cond.methodLink R_law 35 yX11_habit ∈ gd := gd_5 237 ⟨rfl, rfl⟩
set_option maxRecDepth 100000 in
theorem mlL_36 : Cond.methodLink R_law 36 yX10_cycle ∈ gd := gd_2 182 ⟨rfl, rfl⟩
set_option maxRecDepth 100000 in
theorem mlL_40 : Cond.methodLink R_law 40 yX11_cycle ∈ gd := gd_6 5 ⟨rfl, rfl⟩
set_option maxRecDepth 100000 in
theorem mlL_41 : Cond.methodLink R_law 41 yX10_normal ∈ gd := gd_2 194 ⟨rfl, rfl⟩
set_option maxRecDepth 100000 in
theorem mlL_44 : Cond.methodLink R_law 44 yX11_normal ∈ gd := gd_6 9 ⟨rfl, rfl⟩
set_option maxRecDepth 100000 in
theorem mlL_45 : Cond.methodLink R_law 45 yX10_of ∈ gd := gd_2 210 ⟨rfl, rfl⟩
set_option maxRecDepth 100000 in
theorem mlL_48 : Cond.methodLink R_law 48 yX11_of ∈ gd := gd_6 17 ⟨rfl, rfl⟩
set_option maxRecDepth 100000 in
theorem mlL_49 : Cond.methodLink R_law 49 yX10_job ∈ gd := gd_3 3 ⟨rfl, rfl⟩
set_option maxRecDepth 100000 in
theorem mlL_53 : Cond.methodLink R_law 53 yX11_job ∈ gd := gd_6 33 ⟨rfl, rfl⟩
set_option maxRecDepth 100000 in
theorem mlL_54 : Cond.methodLink R_law 54 yX10_part ∈ gd := gd_3 15 ⟨rfl, rfl⟩
set_option maxRecDepth 100000 in
theorem mlL_57 : Cond.methodLink R_law 57 yX11_part ∈ gd := gd_6 37 ⟨rfl, rfl⟩
set_option maxRecDepth 100000 in
theorem mlL_58 : Cond.methodLink R_law 58 yX10_set ∈ gd := gd_3 40 ⟨rfl, rfl⟩
set_option maxRecDepth 100000 in
theorem mlL_61 : Cond.methodLink R_law 61 yX11_set ∈ gd := gd_6 49 ⟨rfl, rfl⟩
set_option maxRecDepth 100000 in
theorem mlL_62 : Cond.methodLink R_law 62 yX10_change ∈ gd := gd_3 92 ⟨rfl, rfl⟩
set_option maxRecDepth 100000 in
theorem mlL_65 : Cond.methodLink R_law 65 yX11_change ∈ gd := gd_6 61 ⟨rfl, rfl⟩
set_option maxRecDepth 100000 in
theorem mlL_66 : Cond.methodLink R_law 66 yX10_move ∈ gd := gd_3 104 ⟨rfl, rfl⟩
set_option maxRecDepth 100000 in
theorem mlL_69 : Cond.methodLink R_law 69 yX11_move ∈ gd := gd_6 65 ⟨rfl, rfl⟩
set_option maxRecDepth 100000 in
theorem mlL_70 : Cond.methodLink R_law 70 yX10_rate ∈ gd := gd_3 121 ⟨rfl, rfl⟩
set_option maxRecDepth 100000 in
theorem mlL_73 : Cond.methodLink R_law 73 yX11_rate ∈ gd := gd_6 69 ⟨rfl, rfl⟩
set_option maxRecDepth 100000 in
theorem mlL_74 : Cond.methodLink R_law 74 yX10_worth ∈ gd := gd_3 136 ⟨rfl, rfl⟩
set_option maxRecDepth 100000 in
theorem mlL_77 : Cond.methodLink R_law 77 yX11_worth ∈ gd := gd_6 80 ⟨rfl, rfl⟩
set_option maxRecDepth 100000 in
theorem mlL_78 : Cond.methodLink R_law 78 yX10_week ∈ gd := gd_3 141 ⟨rfl, rfl⟩
set_option maxRecDepth 100000 in
theorem mlL_81 : Cond.methodLink R_law 81 yX11_week ∈ gd := gd_6 84 ⟨rfl, rfl⟩
set_option maxRecDepth 100000 in
theorem mlL_82 : Cond.methodLink R_law 82 yX10_feed ∈ gd := gd_3 145 ⟨rfl, rfl⟩
set_option maxRecDepth 100000 in
theorem mlL_85 : Cond.methodLink R_law 85 yX11_feed ∈ gd := gd_6 88 ⟨rfl, rfl⟩
set_option maxRecDepth 100000 in
theorem mlL_86 : Cond.methodLink R_law 86 yX10_read ∈ gd := gd_3 157 ⟨rfl, rfl⟩
set_option maxRecDepth 100000 in
theorem mlL_89 : Cond.methodLink R_law 89 yX11_read ∈ gd := gd_6 92 ⟨rfl, rfl⟩
set_option maxRecDepth 100000 in
theorem mlL_90 : Cond.methodLink R_law 90 yX10_rule ∈ gd := gd_4 15 ⟨rfl, rfl⟩
set_option maxRecDepth 100000 in
theorem mlL_93 : Cond.methodLink R_law 93 yX11_rule ∈ gd := gd_6 110 ⟨rfl, rfl⟩
set_option maxRecDepth 100000 in
theorem mlL_94 : Cond.methodLink R_law 94 yX10_work ∈ gd := gd_4 19 ⟨rfl, rfl⟩
set_option maxRecDepth 100000 in
theorem mlL_97 : Cond.methodLink R_law 97 yX11_work ∈ gd := gd_6 114 ⟨rfl, rfl⟩
set_option maxRecDepth 100000 in
theorem mlL_98 : Cond.methodLink R_law 98 yX10_wait ∈ gd := gd_4 40 ⟨rfl, rfl⟩
set_option maxRecDepth 100000 in
theorem mlL_101 : Cond.methodLink R_law 101 yX11_wait ∈ gd := gd_6 122 ⟨rfl, rfl⟩
set_option maxRecDepth 100000 in
theorem mlL_102 : Cond.methodLink R_law 102 yX10_learner ∈ gd := gd_4 55 ⟨rfl, rfl⟩
set_option maxRecDepth 100000 in
theorem mlL_105 : Cond.methodLink R_law 105 yX11_learner ∈ gd := gd_6 126 ⟨rfl, rfl⟩
set_option maxRecDepth 100000 in
theorem mlL_106 : Cond.methodLink R_law 106 yX10_earned ∈ gd := gd_4 63 ⟨rfl, rfl⟩
set_option maxRecDepth 100000 in
theorem mlL_109 : Cond.methodLink R_law 109 yX11_earned ∈ gd := gd_6 130 ⟨rfl, rfl⟩
set_option maxRecDepth 100000 in
theorem mlL_110 : Cond.methodLink R_law 110 yX10_pay ∈ gd := gd_4 86 ⟨rfl, rfl⟩
set_option maxRecDepth 100000 in
theorem mlL_113 : Cond.methodLink R_law 113 yX11_pay ∈ gd := gd_6 138 ⟨rfl, rfl⟩
set_option maxRecDepth 100000 in
theorem mlL_114 : Cond.methodLink R_law 114 yX10_cause ∈ gd := gd_4 117 ⟨rfl, rfl⟩
set_option maxRecDepth 100000 in
theorem mlL_117 : Cond.methodLink R_law 117 yX11_cause ∈ gd := gd_6 146 ⟨rfl, rfl⟩
set_option maxRecDepth 100000 in
theorem mlL_118 : Cond.methodLink R_law 118 yX10_pool ∈ gd := gd_4 125 ⟨rfl, rfl⟩
set_option maxRecDepth 100000 in
theorem mlL_121 : Cond.methodLink R_law 121 yX11_pool ∈ gd := gd_6 150 ⟨rfl, rfl⟩
set_option maxRecDepth 100000 in
theorem mlL_122 : Cond.methodLink R_law 122 yX10_efficiency ∈ gd := gd_4 141 ⟨rfl, rfl⟩
set_option maxRecDepth 100000 in
theorem mlL_125 : Cond.methodLink R_law 125 yX11_efficiency ∈ gd := gd_6 154 ⟨rfl, rfl⟩
set_option maxRecDepth 100000 in
theorem mlL_126 : Cond.methodLink R_law 126 yX10_looser ∈ gd := gd_4 172 ⟨rfl, rfl⟩
set_option maxRecDepth 100000 in
theorem mlL_129 : Cond.methodLink R_law 129 yX11_looser ∈ gd := gd_6 163 ⟨rfl, rfl⟩
set_option maxRecDepth 100000 in
theorem mlL_130 : Cond.methodLink R_law 130 yX10_order ∈ gd := gd_4 184 ⟨rfl, rfl⟩
set_option maxRecDepth 100000 in
theorem mlL_133 : Cond.methodLink R_law 133 yX11_order ∈ gd := gd_6 174 ⟨rfl, rfl⟩
set_option maxRecDepth 100000 in
theorem mlL_134 : Cond.methodLink R_law 134 yX10_slow ∈ gd := gd_4 205 ⟨rfl, rfl⟩
set_option maxRecDepth 100000 in
theorem mlL_137 : Cond.methodLink R_law 137 yX11_slow ∈ gd := gd_6 178 ⟨rfl, rfl⟩
set_option maxRecDepth 100000 in
theorem mlL_138 : Cond.methodLink R_law 138 yX10_tell ∈ gd := gd_5 11 ⟨rfl, rfl⟩
set_option maxRecDepth 100000 in
theorem mlL_141 : Cond.methodLink R_law 141 yX11_tell ∈ gd := gd_6 182 ⟨rfl, rfl⟩
set_option maxRecDepth 100000 in
theorem mlL_142 : Cond.methodLink R_law 142 yX10_check ∈ gd := gd_5 15 ⟨rfl, rfl⟩
set_option maxRecDepth 100000 in
theorem mlL_145 : Cond.methodLink R_law 145 yX11_check ∈ gd := gd_6 186 ⟨rfl, rfl⟩
set_option maxRecDepth 100000 in
theorem mlL_146 : Cond.methodLink R_law 146 yX10_count ∈ gd := gd_5 20 ⟨rfl, rfl⟩
set_option maxRecDepth 100000 in
theorem mlL_149 : Cond.methodLink R_law 149 yX11_count ∈ gd := gd_6 190 ⟨rfl, rfl⟩
set_option maxRecDepth 100000 in
theorem mlL_150 : Cond.methodLink R_law 150 yX10_found ∈ gd := gd_5 44 ⟨rfl, rfl⟩
set_option maxRecDepth 100000 in
theorem mlL_153 : Cond.methodLink R_law 153 yX11_found ∈ gd := gd_6 194 ⟨rfl, rfl⟩
theorem eL_0 : di code 0 (.new 7) 3 3 := ⟨by decide +kernel, rfl⟩
theorem eL_3 : di code 3 (.dup) 1 4 := ⟨by decide +kernel, rfl⟩
theorem eL_4 : di code 4 (.invokespecial 9) 3 7 := ⟨by decide +kernel, rfl⟩
theorem eL_7 : di code 7 (.astore_n 1) 1 8 := ⟨by decide +kernel, rfl⟩
theorem eL_8 : di code 8 (.new 10) 3 11 := ⟨by decide +kernel, rfl⟩
theorem eL_11 : di code 11 (.dup) 1 12 := ⟨by decide +kernel, rfl⟩
theorem eL_12 : di code 12 (.invokespecial 12) 3 15 := ⟨by decide +kernel, rfl⟩
theorem eL_15 : di code 15 (.astore_n 2) 1 16 := ⟨by decide +kernel, rfl⟩
theorem eL_16 : di code 16 (.iconst 0) 1 17 := ⟨by decide +kernel, rfl⟩
theorem eL_17 : di code 17 (.istore_n 3) 1 18 := ⟨by decide +kernel, rfl⟩
theorem eL_18 : di code 18 (.iload_n 3) 1 19 := ⟨by decide +kernel, rfl⟩
theorem eL_19 : di code 19 (.aload_n 0) 1 20 := ⟨by decide +kernel, rfl⟩
theorem eL_20 : di code 20 (.arraylength) 1 21 := ⟨by decide +kernel, rfl⟩
theorem eL_21 : di code 21 (.iconst 5) 1 22 := ⟨by decide +kernel, rfl⟩
theorem eL_22 : di code 22 (.isub) 1 23 := ⟨by decide +kernel, rfl⟩
theorem eL_23 : dj code 23 (.if_icmp .gt) 26 1232 := ⟨1209, by decide +kernel, rfl, rfl⟩
theorem eL_26 : di code 26 (.aload_n 0) 1 27 := ⟨by decide +kernel, rfl⟩
theorem eL_27 : di code 27 (.iload_n 3) 1 28 := ⟨by decide +kernel, rfl⟩
theorem eL_28 : di code 28 (.iaload) 1 29 := ⟨by decide +kernel, rfl⟩
theorem eL_29 : di code 29 (.bipush 63) 2 31 := ⟨by decide +kernel, rfl⟩
theorem eL_31 : di code 31 (.iand) 1 32 := ⟨by decide +kernel, rfl⟩
set_option maxRecDepth 100000 in
theorem eL_32 : dts code 32 (0) (33) 1226 [184, 207, 240, 273, 316, 339, 392, 415, 448, 461, 504, 527, 550, 573, 606, 649, 672, 695, 708, 731, 784, 837, 880, 903, 946, 969, 1012, 1045, 1078, 1101, 1134, 1157, 1180, 1203] := ⟨1194, #[152, 175, 208, 241, 284, 307, 360, 383, 416, 429, 472, 495, 518, 541, 574, 617, 640, 663, 676, 699, 752, 805, 848, 871, 914, 937, 980, 1013, 1046, 1069, 1102, 1125, 1148, 1171], 152, by decide +kernel, rfl, by decide +kernel⟩
theorem eL_184 : di code 184 (.aload_n 1) 1 185 := ⟨by decide +kernel, rfl⟩
theorem eL_185 : di code 185 (.aload_n 0) 1 186 := ⟨by decide +kernel, rfl⟩
theorem eL_186 : di code 186 (.iload_n 3) 1 187 := ⟨by decide +kernel, rfl⟩
theorem eL_187 : di code 187 (.iconst 1) 1 188 := ⟨by decide +kernel, rfl⟩
theorem eL_188 : di code 188 (.iadd) 1 189 := ⟨by decide +kernel, rfl⟩
theorem eL_189 : di code 189 (.iaload) 1 190 := ⟨by decide +kernel, rfl⟩
theorem eL_190 : di code 190 (.invokevirtual 13) 3 193 := ⟨by decide +kernel, rfl⟩
theorem eL_193 : di code 193 (.aload_n 2) 1 194 := ⟨by decide +kernel, rfl⟩
theorem eL_194 : di code 194 (.aload_n 0) 1 195 := ⟨by decide +kernel, rfl⟩
theorem eL_195 : di code 195 (.iload_n 3) 1 196 := ⟨by decide +kernel, rfl⟩
theorem eL_196 : di code 196 (.iconst 1) 1 197 := ⟨by decide +kernel, rfl⟩
theorem eL_197 : di code 197 (.iadd) 1 198 := ⟨by decide +kernel, rfl⟩
theorem eL_198 : di code 198 (.iaload) 1 199 := ⟨by decide +kernel, rfl⟩
theorem eL_199 : di code 199 (.invokevirtual 17) 3 202 := ⟨by decide +kernel, rfl⟩
theorem eL_202 : dj code 202 (.if_icmp .eq) 205 1226 := ⟨1024, by decide +kernel, rfl, rfl⟩
theorem eL_205 : di code 205 (.iconst 0) 1 206 := ⟨by decide +kernel, rfl⟩
theorem eL_206 : di code 206 (.ireturn) 1 207 := ⟨by decide +kernel, rfl⟩
theorem eL_207 : di code 207 (.aload_n 1) 1 208 := ⟨by decide +kernel, rfl⟩
theorem eL_208 : di code 208 (.aload_n 0) 1 209 := ⟨by decide +kernel, rfl⟩
theorem eL_209 : di code 209 (.iload_n 3) 1 210 := ⟨by decide +kernel, rfl⟩
theorem eL_210 : di code 210 (.iconst 1) 1 211 := ⟨by decide +kernel, rfl⟩
theorem eL_211 : di code 211 (.iadd) 1 212 := ⟨by decide +kernel, rfl⟩
theorem eL_212 : di code 212 (.iaload) 1 213 := ⟨by decide +kernel, rfl⟩
theorem eL_213 : di code 213 (.aload_n 0) 1 214 := ⟨by decide +kernel, rfl⟩
theorem eL_214 : di code 214 (.iload_n 3) 1 215 := ⟨by decide +kernel, rfl⟩
theorem eL_215 : di code 215 (.iconst 2) 1 216 := ⟨by decide +kernel, rfl⟩
theorem eL_216 : di code 216 (.iadd) 1 217 := ⟨by decide +kernel, rfl⟩
theorem eL_217 : di code 217 (.iaload) 1 218 := ⟨by decide +kernel, rfl⟩
theorem eL_218 : di code 218 (.invokevirtual 18) 3 221 := ⟨by decide +kernel, rfl⟩
theorem eL_221 : di code 221 (.aload_n 2) 1 222 := ⟨by decide +kernel, rfl⟩
theorem eL_222 : di code 222 (.aload_n 0) 1 223 := ⟨by decide +kernel, rfl⟩
theorem eL_223 : di code 223 (.iload_n 3) 1 224 := ⟨by decide +kernel, rfl⟩
theorem eL_224 : di code 224 (.iconst 1) 1 225 := ⟨by decide +kernel, rfl⟩
theorem eL_225 : di code 225 (.iadd) 1 226 := ⟨by decide +kernel, rfl⟩
theorem eL_226 : di code 226 (.iaload) 1 227 := ⟨by decide +kernel, rfl⟩
theorem eL_227 : di code 227 (.aload_n 0) 1 228 := ⟨by decide +kernel, rfl⟩
theorem eL_228 : di code 228 (.iload_n 3) 1 229 := ⟨by decide +kernel, rfl⟩
theorem eL_229 : di code 229 (.iconst 2) 1 230 := ⟨by decide +kernel, rfl⟩
theorem eL_230 : di code 230 (.iadd) 1 231 := ⟨by decide +kernel, rfl⟩
theorem eL_231 : di code 231 (.iaload) 1 232 := ⟨by decide +kernel, rfl⟩
theorem eL_232 : di code 232 (.invokevirtual 22) 3 235 := ⟨by decide +kernel, rfl⟩
theorem eL_235 : dj code 235 (.if_icmp .eq) 238 1226 := ⟨991, by decide +kernel, rfl, rfl⟩
theorem eL_238 : di code 238 (.iconst 0) 1 239 := ⟨by decide +kernel, rfl⟩
theorem eL_239 : di code 239 (.ireturn) 1 240 := ⟨by decide +kernel, rfl⟩
theorem eL_240 : di code 240 (.aload_n 1) 1 241 := ⟨by decide +kernel, rfl⟩
theorem eL_241 : di code 241 (.aload_n 0) 1 242 := ⟨by decide +kernel, rfl⟩
theorem eL_242 : di code 242 (.iload_n 3) 1 243 := ⟨by decide +kernel, rfl⟩
theorem eL_243 : di code 243 (.iconst 1) 1 244 := ⟨by decide +kernel, rfl⟩
theorem eL_244 : di code 244 (.iadd) 1 245 := ⟨by decide +kernel, rfl⟩
theorem eL_245 : di code 245 (.iaload) 1 246 := ⟨by decide +kernel, rfl⟩
theorem eL_246 : di code 246 (.aload_n 0) 1 247 := ⟨by decide +kernel, rfl⟩
theorem eL_247 : di code 247 (.iload_n 3) 1 248 := ⟨by decide +kernel, rfl⟩
theorem eL_248 : di code 248 (.iconst 2) 1 249 := ⟨by decide +kernel, rfl⟩
theorem eL_249 : di code 249 (.iadd) 1 250 := ⟨by decide +kernel, rfl⟩
theorem eL_250 : di code 250 (.iaload) 1 251 := ⟨by decide +kernel, rfl⟩
theorem eL_251 : di code 251 (.invokevirtual 23) 3 254 := ⟨by decide +kernel, rfl⟩
theorem eL_254 : di code 254 (.aload_n 2) 1 255 := ⟨by decide +kernel, rfl⟩
theorem eL_255 : di code 255 (.aload_n 0) 1 256 := ⟨by decide +kernel, rfl⟩
theorem eL_256 : di code 256 (.iload_n 3) 1 257 := ⟨by decide +kernel, rfl⟩
theorem eL_257 : di code 257 (.iconst 1) 1 258 := ⟨by decide +kernel, rfl⟩
theorem eL_258 : di code 258 (.iadd) 1 259 := ⟨by decide +kernel, rfl⟩
theorem eL_259 : di code 259 (.iaload) 1 260 := ⟨by decide +kernel, rfl⟩
theorem eL_260 : di code 260 (.aload_n 0) 1 261 := ⟨by decide +kernel, rfl⟩
theorem eL_261 : di code 261 (.iload_n 3) 1 262 := ⟨by decide +kernel, rfl⟩
theorem eL_262 : di code 262 (.iconst 2) 1 263 := ⟨by decide +kernel, rfl⟩
theorem eL_263 : di code 263 (.iadd) 1 264 := ⟨by decide +kernel, rfl⟩
theorem eL_264 : di code 264 (.iaload) 1 265 := ⟨by decide +kernel, rfl⟩
theorem eL_265 : di code 265 (.invokevirtual 26) 3 268 := ⟨by decide +kernel, rfl⟩
theorem eL_268 : dj code 268 (.if_icmp .eq) 271 1226 := ⟨958, by decide +kernel, rfl, rfl⟩
theorem eL_271 : di code 271 (.iconst 0) 1 272 := ⟨by decide +kernel, rfl⟩
theorem eL_272 : di code 272 (.ireturn) 1 273 := ⟨by decide +kernel, rfl⟩
theorem eL_273 : di code 273 (.aload_n 1) 1 274 := ⟨by decide +kernel, rfl⟩
theorem eL_274 : di code 274 (.aload_n 0) 1 275 := ⟨by decide +kernel, rfl⟩
theorem eL_275 : di code 275 (.iload_n 3) 1 276 := ⟨by decide +kernel, rfl⟩
theorem eL_276 : di code 276 (.iconst 1) 1 277 := ⟨by decide +kernel, rfl⟩
theorem eL_277 : di code 277 (.iadd) 1 278 := ⟨by decide +kernel, rfl⟩
theorem eL_278 : di code 278 (.iaload) 1 279 := ⟨by decide +kernel, rfl⟩
theorem eL_279 : di code 279 (.aload_n 0) 1 280 := ⟨by decide +kernel, rfl⟩
theorem eL_280 : di code 280 (.iload_n 3) 1 281 := ⟨by decide +kernel, rfl⟩
theorem eL_281 : di code 281 (.iconst 2) 1 282 := ⟨by decide +kernel, rfl⟩
theorem eL_282 : di code 282 (.iadd) 1 283 := ⟨by decide +kernel, rfl⟩
theorem eL_283 : di code 283 (.iaload) 1 284 := ⟨by decide +kernel, rfl⟩
theorem eL_284 : di code 284 (.aload_n 0) 1 285 := ⟨by decide +kernel, rfl⟩
theorem eL_285 : di code 285 (.iload_n 3) 1 286 := ⟨by decide +kernel, rfl⟩
theorem eL_286 : di code 286 (.iconst 3) 1 287 := ⟨by decide +kernel, rfl⟩
theorem eL_287 : di code 287 (.iadd) 1 288 := ⟨by decide +kernel, rfl⟩
theorem eL_288 : di code 288 (.iaload) 1 289 := ⟨by decide +kernel, rfl⟩
theorem eL_289 : di code 289 (.invokevirtual 27) 3 292 := ⟨by decide +kernel, rfl⟩
theorem eL_292 : di code 292 (.aload_n 2) 1 293 := ⟨by decide +kernel, rfl⟩
theorem eL_293 : di code 293 (.aload_n 0) 1 294 := ⟨by decide +kernel, rfl⟩
theorem eL_294 : di code 294 (.iload_n 3) 1 295 := ⟨by decide +kernel, rfl⟩
theorem eL_295 : di code 295 (.iconst 1) 1 296 := ⟨by decide +kernel, rfl⟩
theorem eL_296 : di code 296 (.iadd) 1 297 := ⟨by decide +kernel, rfl⟩
theorem eL_297 : di code 297 (.iaload) 1 298 := ⟨by decide +kernel, rfl⟩
theorem eL_298 : di code 298 (.aload_n 0) 1 299 := ⟨by decide +kernel, rfl⟩
theorem eL_299 : di code 299 (.iload_n 3) 1 300 := ⟨by decide +kernel, rfl⟩
theorem eL_300 : di code 300 (.iconst 2) 1 301 := ⟨by decide +kernel, rfl⟩
theorem eL_301 : di code 301 (.iadd) 1 302 := ⟨by decide +kernel, rfl⟩
theorem eL_302 : di code 302 (.iaload) 1 303 := ⟨by decide +kernel, rfl⟩
theorem eL_303 : di code 303 (.aload_n 0) 1 304 := ⟨by decide +kernel, rfl⟩
theorem eL_304 : di code 304 (.iload_n 3) 1 305 := ⟨by decide +kernel, rfl⟩
theorem eL_305 : di code 305 (.iconst 3) 1 306 := ⟨by decide +kernel, rfl⟩
theorem eL_306 : di code 306 (.iadd) 1 307 := ⟨by decide +kernel, rfl⟩
theorem eL_307 : di code 307 (.iaload) 1 308 := ⟨by decide +kernel, rfl⟩
theorem eL_308 : di code 308 (.invokevirtual 31) 3 311 := ⟨by decide +kernel, rfl⟩
theorem eL_311 : dj code 311 (.if_icmp .eq) 314 1226 := ⟨915, by decide +kernel, rfl, rfl⟩
theorem eL_314 : di code 314 (.iconst 0) 1 315 := ⟨by decide +kernel, rfl⟩
theorem eL_315 : di code 315 (.ireturn) 1 316 := ⟨by decide +kernel, rfl⟩
theorem eL_316 : di code 316 (.aload_n 1) 1 317 := ⟨by decide +kernel, rfl⟩
theorem eL_317 : di code 317 (.aload_n 0) 1 318 := ⟨by decide +kernel, rfl⟩
theorem eL_318 : di code 318 (.iload_n 3) 1 319 := ⟨by decide +kernel, rfl⟩
theorem eL_319 : di code 319 (.iconst 1) 1 320 := ⟨by decide +kernel, rfl⟩
theorem eL_320 : di code 320 (.iadd) 1 321 := ⟨by decide +kernel, rfl⟩
theorem eL_321 : di code 321 (.iaload) 1 322 := ⟨by decide +kernel, rfl⟩
theorem eL_322 : di code 322 (.invokevirtual 32) 3 325 := ⟨by decide +kernel, rfl⟩
theorem eL_325 : di code 325 (.aload_n 2) 1 326 := ⟨by decide +kernel, rfl⟩
theorem eL_326 : di code 326 (.aload_n 0) 1 327 := ⟨by decide +kernel, rfl⟩
theorem eL_327 : di code 327 (.iload_n 3) 1 328 := ⟨by decide +kernel, rfl⟩
theorem eL_328 : di code 328 (.iconst 1) 1 329 := ⟨by decide +kernel, rfl⟩
theorem eL_329 : di code 329 (.iadd) 1 330 := ⟨by decide +kernel, rfl⟩
theorem eL_330 : di code 330 (.iaload) 1 331 := ⟨by decide +kernel, rfl⟩
theorem eL_331 : di code 331 (.invokevirtual 35) 3 334 := ⟨by decide +kernel, rfl⟩
theorem eL_334 : dj code 334 (.if_icmp .eq) 337 1226 := ⟨892, by decide +kernel, rfl, rfl⟩
theorem eL_337 : di code 337 (.iconst 0) 1 338 := ⟨by decide +kernel, rfl⟩
theorem eL_338 : di code 338 (.ireturn) 1 339 := ⟨by decide +kernel, rfl⟩
theorem eL_339 : di code 339 (.aload_n 1) 1 340 := ⟨by decide +kernel, rfl⟩
theorem eL_340 : di code 340 (.aload_n 0) 1 341 := ⟨by decide +kernel, rfl⟩
theorem eL_341 : di code 341 (.iload_n 3) 1 342 := ⟨by decide +kernel, rfl⟩
theorem eL_342 : di code 342 (.iconst 1) 1 343 := ⟨by decide +kernel, rfl⟩
theorem eL_343 : di code 343 (.iadd) 1 344 := ⟨by decide +kernel, rfl⟩
theorem eL_344 : di code 344 (.iaload) 1 345 := ⟨by decide +kernel, rfl⟩
theorem eL_345 : di code 345 (.aload_n 0) 1 346 := ⟨by decide +kernel, rfl⟩
theorem eL_346 : di code 346 (.iload_n 3) 1 347 := ⟨by decide +kernel, rfl⟩
theorem eL_347 : di code 347 (.iconst 2) 1 348 := ⟨by decide +kernel, rfl⟩
theorem eL_348 : di code 348 (.iadd) 1 349 := ⟨by decide +kernel, rfl⟩
theorem eL_349 : di code 349 (.iaload) 1 350 := ⟨by decide +kernel, rfl⟩
theorem eL_350 : di code 350 (.aload_n 0) 1 351 := ⟨by decide +kernel, rfl⟩
theorem eL_351 : di code 351 (.iload_n 3) 1 352 := ⟨by decide +kernel, rfl⟩
theorem eL_352 : di code 352 (.iconst 3) 1 353 := ⟨by decide +kernel, rfl⟩
theorem eL_353 : di code 353 (.iadd) 1 354 := ⟨by decide +kernel, rfl⟩
theorem eL_354 : di code 354 (.iaload) 1 355 := ⟨by decide +kernel, rfl⟩
theorem eL_355 : di code 355 (.aload_n 0) 1 356 := ⟨by decide +kernel, rfl⟩
theorem eL_356 : di code 356 (.iload_n 3) 1 357 := ⟨by decide +kernel, rfl⟩
theorem eL_357 : di code 357 (.iconst 4) 1 358 := ⟨by decide +kernel, rfl⟩
theorem eL_358 : di code 358 (.iadd) 1 359 := ⟨by decide +kernel, rfl⟩
theorem eL_359 : di code 359 (.iaload) 1 360 := ⟨by decide +kernel, rfl⟩
theorem eL_360 : di code 360 (.invokevirtual 36) 3 363 := ⟨by decide +kernel, rfl⟩
theorem eL_363 : di code 363 (.aload_n 2) 1 364 := ⟨by decide +kernel, rfl⟩
theorem eL_364 : di code 364 (.aload_n 0) 1 365 := ⟨by decide +kernel, rfl⟩
theorem eL_365 : di code 365 (.iload_n 3) 1 366 := ⟨by decide +kernel, rfl⟩
theorem eL_366 : di code 366 (.iconst 1) 1 367 := ⟨by decide +kernel, rfl⟩
theorem eL_367 : di code 367 (.iadd) 1 368 := ⟨by decide +kernel, rfl⟩
theorem eL_368 : di code 368 (.iaload) 1 369 := ⟨by decide +kernel, rfl⟩
theorem eL_369 : di code 369 (.aload_n 0) 1 370 := ⟨by decide +kernel, rfl⟩
theorem eL_370 : di code 370 (.iload_n 3) 1 371 := ⟨by decide +kernel, rfl⟩
theorem eL_371 : di code 371 (.iconst 2) 1 372 := ⟨by decide +kernel, rfl⟩
theorem eL_372 : di code 372 (.iadd) 1 373 := ⟨by decide +kernel, rfl⟩
theorem eL_373 : di code 373 (.iaload) 1 374 := ⟨by decide +kernel, rfl⟩
theorem eL_374 : di code 374 (.aload_n 0) 1 375 := ⟨by decide +kernel, rfl⟩
theorem eL_375 : di code 375 (.iload_n 3) 1 376 := ⟨by decide +kernel, rfl⟩
theorem eL_376 : di code 376 (.iconst 3) 1 377 := ⟨by decide +kernel, rfl⟩
theorem eL_377 : di code 377 (.iadd) 1 378 := ⟨by decide +kernel, rfl⟩
theorem eL_378 : di code 378 (.iaload) 1 379 := ⟨by decide +kernel, rfl⟩
theorem eL_379 : di code 379 (.aload_n 0) 1 380 := ⟨by decide +kernel, rfl⟩
theorem eL_380 : di code 380 (.iload_n 3) 1 381 := ⟨by decide +kernel, rfl⟩
theorem eL_381 : di code 381 (.iconst 4) 1 382 := ⟨by decide +kernel, rfl⟩
theorem eL_382 : di code 382 (.iadd) 1 383 := ⟨by decide +kernel, rfl⟩
theorem eL_383 : di code 383 (.iaload) 1 384 := ⟨by decide +kernel, rfl⟩
theorem eL_384 : di code 384 (.invokevirtual 40) 3 387 := ⟨by decide +kernel, rfl⟩
theorem eL_387 : dj code 387 (.if_icmp .eq) 390 1226 := ⟨839, by decide +kernel, rfl, rfl⟩
theorem eL_390 : di code 390 (.iconst 0) 1 391 := ⟨by decide +kernel, rfl⟩
theorem eL_391 : di code 391 (.ireturn) 1 392 := ⟨by decide +kernel, rfl⟩
theorem eL_392 : di code 392 (.aload_n 1) 1 393 := ⟨by decide +kernel, rfl⟩
theorem eL_393 : di code 393 (.aload_n 0) 1 394 := ⟨by decide +kernel, rfl⟩
theorem eL_394 : di code 394 (.iload_n 3) 1 395 := ⟨by decide +kernel, rfl⟩
theorem eL_395 : di code 395 (.iconst 1) 1 396 := ⟨by decide +kernel, rfl⟩
theorem eL_396 : di code 396 (.iadd) 1 397 := ⟨by decide +kernel, rfl⟩
theorem eL_397 : di code 397 (.iaload) 1 398 := ⟨by decide +kernel, rfl⟩
theorem eL_398 : di code 398 (.invokevirtual 41) 3 401 := ⟨by decide +kernel, rfl⟩
theorem eL_401 : di code 401 (.aload_n 2) 1 402 := ⟨by decide +kernel, rfl⟩
theorem eL_402 : di code 402 (.aload_n 0) 1 403 := ⟨by decide +kernel, rfl⟩
theorem eL_403 : di code 403 (.iload_n 3) 1 404 := ⟨by decide +kernel, rfl⟩
theorem eL_404 : di code 404 (.iconst 1) 1 405 := ⟨by decide +kernel, rfl⟩
theorem eL_405 : di code 405 (.iadd) 1 406 := ⟨by decide +kernel, rfl⟩
theorem eL_406 : di code 406 (.iaload) 1 407 := ⟨by decide +kernel, rfl⟩
theorem eL_407 : di code 407 (.invokevirtual 44) 3 410 := ⟨by decide +kernel, rfl⟩
theorem eL_410 : dj code 410 (.if_icmp .eq) 413 1226 := ⟨816, by decide +kernel, rfl, rfl⟩
theorem eL_413 : di code 413 (.iconst 0) 1 414 := ⟨by decide +kernel, rfl⟩
theorem eL_414 : di code 414 (.ireturn) 1 415 := ⟨by decide +kernel, rfl⟩
theorem eL_415 : di code 415 (.aload_n 1) 1 416 := ⟨by decide +kernel, rfl⟩
theorem eL_416 : di code 416 (.aload_n 0) 1 417 := ⟨by decide +kernel, rfl⟩
theorem eL_417 : di code 417 (.iload_n 3) 1 418 := ⟨by decide +kernel, rfl⟩
theorem eL_418 : di code 418 (.iconst 1) 1 419 := ⟨by decide +kernel, rfl⟩
theorem eL_419 : di code 419 (.iadd) 1 420 := ⟨by decide +kernel, rfl⟩
theorem eL_420 : di code 420 (.iaload) 1 421 := ⟨by decide +kernel, rfl⟩
theorem eL_421 : di code 421 (.aload_n 0) 1 422 := ⟨by decide +kernel, rfl⟩
theorem eL_422 : di code 422 (.iload_n 3) 1 423 := ⟨by decide +kernel, rfl⟩
theorem eL_423 : di code 423 (.iconst 2) 1 424 := ⟨by decide +kernel, rfl⟩
theorem eL_424 : di code 424 (.iadd) 1 425 := ⟨by decide +kernel, rfl⟩
theorem eL_425 : di code 425 (.iaload) 1 426 := ⟨by decide +kernel, rfl⟩
theorem eL_426 : di code 426 (.invokevirtual 45) 3 429 := ⟨by decide +kernel, rfl⟩
theorem eL_429 : di code 429 (.aload_n 2) 1 430 := ⟨by decide +kernel, rfl⟩
theorem eL_430 : di code 430 (.aload_n 0) 1 431 := ⟨by decide +kernel, rfl⟩
theorem eL_431 : di code 431 (.iload_n 3) 1 432 := ⟨by decide +kernel, rfl⟩
theorem eL_432 : di code 432 (.iconst 1) 1 433 := ⟨by decide +kernel, rfl⟩
theorem eL_433 : di code 433 (.iadd) 1 434 := ⟨by decide +kernel, rfl⟩
theorem eL_434 : di code 434 (.iaload) 1 435 := ⟨by decide +kernel, rfl⟩
theorem eL_435 : di code 435 (.aload_n 0) 1 436 := ⟨by decide +kernel, rfl⟩
theorem eL_436 : di code 436 (.iload_n 3) 1 437 := ⟨by decide +kernel, rfl⟩
theorem eL_437 : di code 437 (.iconst 2) 1 438 := ⟨by decide +kernel, rfl⟩
theorem eL_438 : di code 438 (.iadd) 1 439 := ⟨by decide +kernel, rfl⟩
theorem eL_439 : di code 439 (.iaload) 1 440 := ⟨by decide +kernel, rfl⟩
theorem eL_440 : di code 440 (.invokevirtual 48) 3 443 := ⟨by decide +kernel, rfl⟩
theorem eL_443 : dj code 443 (.if_icmp .eq) 446 1226 := ⟨783, by decide +kernel, rfl, rfl⟩
theorem eL_446 : di code 446 (.iconst 0) 1 447 := ⟨by decide +kernel, rfl⟩
theorem eL_447 : di code 447 (.ireturn) 1 448 := ⟨by decide +kernel, rfl⟩
theorem eL_448 : di code 448 (.aload_n 1) 1 449 := ⟨by decide +kernel, rfl⟩
theorem eL_449 : di code 449 (.invokevirtual 49) 3 452 := ⟨by decide +kernel, rfl⟩
theorem eL_452 : di code 452 (.aload_n 2) 1 453 := ⟨by decide +kernel, rfl⟩
theorem eL_453 : di code 453 (.invokevirtual 53) 3 456 := ⟨by decide +kernel, rfl⟩
theorem eL_456 : dj code 456 (.if_icmp .eq) 459 1226 := ⟨770, by decide +kernel, rfl, rfl⟩
theorem eL_459 : di code 459 (.iconst 0) 1 460 := ⟨by decide +kernel, rfl⟩
theorem eL_460 : di code 460 (.ireturn) 1 461 := ⟨by decide +kernel, rfl⟩
theorem eL_461 : di code 461 (.aload_n 1) 1 462 := ⟨by decide +kernel, rfl⟩
theorem eL_462 : di code 462 (.aload_n 0) 1 463 := ⟨by decide +kernel, rfl⟩
theorem eL_463 : di code 463 (.iload_n 3) 1 464 := ⟨by decide +kernel, rfl⟩
theorem eL_464 : di code 464 (.iconst 1) 1 465 := ⟨by decide +kernel, rfl⟩
theorem eL_465 : di code 465 (.iadd) 1 466 := ⟨by decide +kernel, rfl⟩
theorem eL_466 : di code 466 (.iaload) 1 467 := ⟨by decide +kernel, rfl⟩
theorem eL_467 : di code 467 (.aload_n 0) 1 468 := ⟨by decide +kernel, rfl⟩
theorem eL_468 : di code 468 (.iload_n 3) 1 469 := ⟨by decide +kernel, rfl⟩
theorem eL_469 : di code 469 (.iconst 2) 1 470 := ⟨by decide +kernel, rfl⟩
theorem eL_470 : di code 470 (.iadd) 1 471 := ⟨by decide +kernel, rfl⟩
theorem eL_471 : di code 471 (.iaload) 1 472 := ⟨by decide +kernel, rfl⟩
theorem eL_472 : di code 472 (.aload_n 0) 1 473 := ⟨by decide +kernel, rfl⟩
theorem eL_473 : di code 473 (.iload_n 3) 1 474 := ⟨by decide +kernel, rfl⟩
theorem eL_474 : di code 474 (.iconst 3) 1 475 := ⟨by decide +kernel, rfl⟩
theorem eL_475 : di code 475 (.iadd) 1 476 := ⟨by decide +kernel, rfl⟩
theorem eL_476 : di code 476 (.iaload) 1 477 := ⟨by decide +kernel, rfl⟩
theorem eL_477 : di code 477 (.invokevirtual 54) 3 480 := ⟨by decide +kernel, rfl⟩
theorem eL_480 : di code 480 (.aload_n 2) 1 481 := ⟨by decide +kernel, rfl⟩
theorem eL_481 : di code 481 (.aload_n 0) 1 482 := ⟨by decide +kernel, rfl⟩
theorem eL_482 : di code 482 (.iload_n 3) 1 483 := ⟨by decide +kernel, rfl⟩
theorem eL_483 : di code 483 (.iconst 1) 1 484 := ⟨by decide +kernel, rfl⟩
theorem eL_484 : di code 484 (.iadd) 1 485 := ⟨by decide +kernel, rfl⟩
theorem eL_485 : di code 485 (.iaload) 1 486 := ⟨by decide +kernel, rfl⟩
theorem eL_486 : di code 486 (.aload_n 0) 1 487 := ⟨by decide +kernel, rfl⟩
theorem eL_487 : di code 487 (.iload_n 3) 1 488 := ⟨by decide +kernel, rfl⟩
theorem eL_488 : di code 488 (.iconst 2) 1 489 := ⟨by decide +kernel, rfl⟩
theorem eL_489 : di code 489 (.iadd) 1 490 := ⟨by decide +kernel, rfl⟩
theorem eL_490 : di code 490 (.iaload) 1 491 := ⟨by decide +kernel, rfl⟩
theorem eL_491 : di code 491 (.aload_n 0) 1 492 := ⟨by decide +kernel, rfl⟩
theorem eL_492 : di code 492 (.iload_n 3) 1 493 := ⟨by decide +kernel, rfl⟩
theorem eL_493 : di code 493 (.iconst 3) 1 494 := ⟨by decide +kernel, rfl⟩
theorem eL_494 : di code 494 (.iadd) 1 495 := ⟨by decide +kernel, rfl⟩
theorem eL_495 : di code 495 (.iaload) 1 496 := ⟨by decide +kernel, rfl⟩
theorem eL_496 : di code 496 (.invokevirtual 57) 3 499 := ⟨by decide +kernel, rfl⟩
theorem eL_499 : dj code 499 (.if_icmp .eq) 502 1226 := ⟨727, by decide +kernel, rfl, rfl⟩
theorem eL_502 : di code 502 (.iconst 0) 1 503 := ⟨by decide +kernel, rfl⟩
theorem eL_503 : di code 503 (.ireturn) 1 504 := ⟨by decide +kernel, rfl⟩
theorem eL_504 : di code 504 (.aload_n 1) 1 505 := ⟨by decide +kernel, rfl⟩
theorem eL_505 : di code 505 (.aload_n 0) 1 506 := ⟨by decide +kernel, rfl⟩
theorem eL_506 : di code 506 (.iload_n 3) 1 507 := ⟨by decide +kernel, rfl⟩
theorem eL_507 : di code 507 (.iconst 1) 1 508 := ⟨by decide +kernel, rfl⟩
theorem eL_508 : di code 508 (.iadd) 1 509 := ⟨by decide +kernel, rfl⟩
theorem eL_509 : di code 509 (.iaload) 1 510 := ⟨by decide +kernel, rfl⟩
theorem eL_510 : di code 510 (.invokevirtual 58) 3 513 := ⟨by decide +kernel, rfl⟩
theorem eL_513 : di code 513 (.aload_n 2) 1 514 := ⟨by decide +kernel, rfl⟩
theorem eL_514 : di code 514 (.aload_n 0) 1 515 := ⟨by decide +kernel, rfl⟩
theorem eL_515 : di code 515 (.iload_n 3) 1 516 := ⟨by decide +kernel, rfl⟩
theorem eL_516 : di code 516 (.iconst 1) 1 517 := ⟨by decide +kernel, rfl⟩
theorem eL_517 : di code 517 (.iadd) 1 518 := ⟨by decide +kernel, rfl⟩
theorem eL_518 : di code 518 (.iaload) 1 519 := ⟨by decide +kernel, rfl⟩
theorem eL_519 : di code 519 (.invokevirtual 61) 3 522 := ⟨by decide +kernel, rfl⟩
theorem eL_522 : dj code 522 (.if_icmp .eq) 525 1226 := ⟨704, by decide +kernel, rfl, rfl⟩
theorem eL_525 : di code 525 (.iconst 0) 1 526 := ⟨by decide +kernel, rfl⟩
theorem eL_526 : di code 526 (.ireturn) 1 527 := ⟨by decide +kernel, rfl⟩
theorem eL_527 : di code 527 (.aload_n 1) 1 528 := ⟨by decide +kernel, rfl⟩
theorem eL_528 : di code 528 (.aload_n 0) 1 529 := ⟨by decide +kernel, rfl⟩
theorem eL_529 : di code 529 (.iload_n 3) 1 530 := ⟨by decide +kernel, rfl⟩
theorem eL_530 : di code 530 (.iconst 1) 1 531 := ⟨by decide +kernel, rfl⟩
theorem eL_531 : di code 531 (.iadd) 1 532 := ⟨by decide +kernel, rfl⟩
theorem eL_532 : di code 532 (.iaload) 1 533 := ⟨by decide +kernel, rfl⟩
theorem eL_533 : di code 533 (.invokevirtual 62) 3 536 := ⟨by decide +kernel, rfl⟩
theorem eL_536 : di code 536 (.aload_n 2) 1 537 := ⟨by decide +kernel, rfl⟩
theorem eL_537 : di code 537 (.aload_n 0) 1 538 := ⟨by decide +kernel, rfl⟩
theorem eL_538 : di code 538 (.iload_n 3) 1 539 := ⟨by decide +kernel, rfl⟩
theorem eL_539 : di code 539 (.iconst 1) 1 540 := ⟨by decide +kernel, rfl⟩
theorem eL_540 : di code 540 (.iadd) 1 541 := ⟨by decide +kernel, rfl⟩
theorem eL_541 : di code 541 (.iaload) 1 542 := ⟨by decide +kernel, rfl⟩
theorem eL_542 : di code 542 (.invokevirtual 65) 3 545 := ⟨by decide +kernel, rfl⟩
theorem eL_545 : dj code 545 (.if_icmp .eq) 548 1226 := ⟨681, by decide +kernel, rfl, rfl⟩
theorem eL_548 : di code 548 (.iconst 0) 1 549 := ⟨by decide +kernel, rfl⟩
theorem eL_549 : di code 549 (.ireturn) 1 550 := ⟨by decide +kernel, rfl⟩
theorem eL_550 : di code 550 (.aload_n 1) 1 551 := ⟨by decide +kernel, rfl⟩
theorem eL_551 : di code 551 (.aload_n 0) 1 552 := ⟨by decide +kernel, rfl⟩
theorem eL_552 : di code 552 (.iload_n 3) 1 553 := ⟨by decide +kernel, rfl⟩
theorem eL_553 : di code 553 (.iconst 1) 1 554 := ⟨by decide +kernel, rfl⟩
theorem eL_554 : di code 554 (.iadd) 1 555 := ⟨by decide +kernel, rfl⟩
theorem eL_555 : di code 555 (.iaload) 1 556 := ⟨by decide +kernel, rfl⟩
theorem eL_556 : di code 556 (.invokevirtual 66) 3 559 := ⟨by decide +kernel, rfl⟩
theorem eL_559 : di code 559 (.aload_n 2) 1 560 := ⟨by decide +kernel, rfl⟩
theorem eL_560 : di code 560 (.aload_n 0) 1 561 := ⟨by decide +kernel, rfl⟩
theorem eL_561 : di code 561 (.iload_n 3) 1 562 := ⟨by decide +kernel, rfl⟩
theorem eL_562 : di code 562 (.iconst 1) 1 563 := ⟨by decide +kernel, rfl⟩
theorem eL_563 : di code 563 (.iadd) 1 564 := ⟨by decide +kernel, rfl⟩
theorem eL_564 : di code 564 (.iaload) 1 565 := ⟨by decide +kernel, rfl⟩
theorem eL_565 : di code 565 (.invokevirtual 69) 3 568 := ⟨by decide +kernel, rfl⟩
theorem eL_568 : dj code 568 (.if_icmp .eq) 571 1226 := ⟨658, by decide +kernel, rfl, rfl⟩
theorem eL_571 : di code 571 (.iconst 0) 1 572 := ⟨by decide +kernel, rfl⟩
theorem eL_572 : di code 572 (.ireturn) 1 573 := ⟨by decide +kernel, rfl⟩
theorem eL_573 : di code 573 (.aload_n 1) 1 574 := ⟨by decide +kernel, rfl⟩
theorem eL_574 : di code 574 (.aload_n 0) 1 575 := ⟨by decide +kernel, rfl⟩
theorem eL_575 : di code 575 (.iload_n 3) 1 576 := ⟨by decide +kernel, rfl⟩
theorem eL_576 : di code 576 (.iconst 1) 1 577 := ⟨by decide +kernel, rfl⟩
theorem eL_577 : di code 577 (.iadd) 1 578 := ⟨by decide +kernel, rfl⟩
theorem eL_578 : di code 578 (.iaload) 1 579 := ⟨by decide +kernel, rfl⟩
theorem eL_579 : di code 579 (.aload_n 0) 1 580 := ⟨by decide +kernel, rfl⟩
theorem eL_580 : di code 580 (.iload_n 3) 1 581 := ⟨by decide +kernel, rfl⟩
theorem eL_581 : di code 581 (.iconst 2) 1 582 := ⟨by decide +kernel, rfl⟩
theorem eL_582 : di code 582 (.iadd) 1 583 := ⟨by decide +kernel, rfl⟩
theorem eL_583 : di code 583 (.iaload) 1 584 := ⟨by decide +kernel, rfl⟩
theorem eL_584 : di code 584 (.invokevirtual 70) 3 587 := ⟨by decide +kernel, rfl⟩
theorem eL_587 : di code 587 (.aload_n 2) 1 588 := ⟨by decide +kernel, rfl⟩
theorem eL_588 : di code 588 (.aload_n 0) 1 589 := ⟨by decide +kernel, rfl⟩
theorem eL_589 : di code 589 (.iload_n 3) 1 590 := ⟨by decide +kernel, rfl⟩
theorem eL_590 : di code 590 (.iconst 1) 1 591 := ⟨by decide +kernel, rfl⟩
theorem eL_591 : di code 591 (.iadd) 1 592 := ⟨by decide +kernel, rfl⟩
theorem eL_592 : di code 592 (.iaload) 1 593 := ⟨by decide +kernel, rfl⟩
theorem eL_593 : di code 593 (.aload_n 0) 1 594 := ⟨by decide +kernel, rfl⟩
theorem eL_594 : di code 594 (.iload_n 3) 1 595 := ⟨by decide +kernel, rfl⟩
theorem eL_595 : di code 595 (.iconst 2) 1 596 := ⟨by decide +kernel, rfl⟩
theorem eL_596 : di code 596 (.iadd) 1 597 := ⟨by decide +kernel, rfl⟩
theorem eL_597 : di code 597 (.iaload) 1 598 := ⟨by decide +kernel, rfl⟩
theorem eL_598 : di code 598 (.invokevirtual 73) 3 601 := ⟨by decide +kernel, rfl⟩
theorem eL_601 : dj code 601 (.if_icmp .eq) 604 1226 := ⟨625, by decide +kernel, rfl, rfl⟩
theorem eL_604 : di code 604 (.iconst 0) 1 605 := ⟨by decide +kernel, rfl⟩
theorem eL_605 : di code 605 (.ireturn) 1 606 := ⟨by decide +kernel, rfl⟩
theorem eL_606 : di code 606 (.aload_n 1) 1 607 := ⟨by decide +kernel, rfl⟩
theorem eL_607 : di code 607 (.aload_n 0) 1 608 := ⟨by decide +kernel, rfl⟩
theorem eL_608 : di code 608 (.iload_n 3) 1 609 := ⟨by decide +kernel, rfl⟩
theorem eL_609 : di code 609 (.iconst 1) 1 610 := ⟨by decide +kernel, rfl⟩
theorem eL_610 : di code 610 (.iadd) 1 611 := ⟨by decide +kernel, rfl⟩
theorem eL_611 : di code 611 (.iaload) 1 612 := ⟨by decide +kernel, rfl⟩
theorem eL_612 : di code 612 (.aload_n 0) 1 613 := ⟨by decide +kernel, rfl⟩
theorem eL_613 : di code 613 (.iload_n 3) 1 614 := ⟨by decide +kernel, rfl⟩
theorem eL_614 : di code 614 (.iconst 2) 1 615 := ⟨by decide +kernel, rfl⟩
theorem eL_615 : di code 615 (.iadd) 1 616 := ⟨by decide +kernel, rfl⟩
theorem eL_616 : di code 616 (.iaload) 1 617 := ⟨by decide +kernel, rfl⟩
theorem eL_617 : di code 617 (.aload_n 0) 1 618 := ⟨by decide +kernel, rfl⟩
theorem eL_618 : di code 618 (.iload_n 3) 1 619 := ⟨by decide +kernel, rfl⟩
theorem eL_619 : di code 619 (.iconst 3) 1 620 := ⟨by decide +kernel, rfl⟩
theorem eL_620 : di code 620 (.iadd) 1 621 := ⟨by decide +kernel, rfl⟩
theorem eL_621 : di code 621 (.iaload) 1 622 := ⟨by decide +kernel, rfl⟩
theorem eL_622 : di code 622 (.invokevirtual 74) 3 625 := ⟨by decide +kernel, rfl⟩
theorem eL_625 : di code 625 (.aload_n 2) 1 626 := ⟨by decide +kernel, rfl⟩
theorem eL_626 : di code 626 (.aload_n 0) 1 627 := ⟨by decide +kernel, rfl⟩
theorem eL_627 : di code 627 (.iload_n 3) 1 628 := ⟨by decide +kernel, rfl⟩
theorem eL_628 : di code 628 (.iconst 1) 1 629 := ⟨by decide +kernel, rfl⟩
theorem eL_629 : di code 629 (.iadd) 1 630 := ⟨by decide +kernel, rfl⟩
theorem eL_630 : di code 630 (.iaload) 1 631 := ⟨by decide +kernel, rfl⟩
theorem eL_631 : di code 631 (.aload_n 0) 1 632 := ⟨by decide +kernel, rfl⟩
theorem eL_632 : di code 632 (.iload_n 3) 1 633 := ⟨by decide +kernel, rfl⟩
theorem eL_633 : di code 633 (.iconst 2) 1 634 := ⟨by decide +kernel, rfl⟩
theorem eL_634 : di code 634 (.iadd) 1 635 := ⟨by decide +kernel, rfl⟩
theorem eL_635 : di code 635 (.iaload) 1 636 := ⟨by decide +kernel, rfl⟩
theorem eL_636 : di code 636 (.aload_n 0) 1 637 := ⟨by decide +kernel, rfl⟩
theorem eL_637 : di code 637 (.iload_n 3) 1 638 := ⟨by decide +kernel, rfl⟩
theorem eL_638 : di code 638 (.iconst 3) 1 639 := ⟨by decide +kernel, rfl⟩
theorem eL_639 : di code 639 (.iadd) 1 640 := ⟨by decide +kernel, rfl⟩
theorem eL_640 : di code 640 (.iaload) 1 641 := ⟨by decide +kernel, rfl⟩
theorem eL_641 : di code 641 (.invokevirtual 77) 3 644 := ⟨by decide +kernel, rfl⟩
theorem eL_644 : dj code 644 (.if_icmp .eq) 647 1226 := ⟨582, by decide +kernel, rfl, rfl⟩
theorem eL_647 : di code 647 (.iconst 0) 1 648 := ⟨by decide +kernel, rfl⟩
theorem eL_648 : di code 648 (.ireturn) 1 649 := ⟨by decide +kernel, rfl⟩
theorem eL_649 : di code 649 (.aload_n 1) 1 650 := ⟨by decide +kernel, rfl⟩
theorem eL_650 : di code 650 (.aload_n 0) 1 651 := ⟨by decide +kernel, rfl⟩
theorem eL_651 : di code 651 (.iload_n 3) 1 652 := ⟨by decide +kernel, rfl⟩
theorem eL_652 : di code 652 (.iconst 1) 1 653 := ⟨by decide +kernel, rfl⟩
theorem eL_653 : di code 653 (.iadd) 1 654 := ⟨by decide +kernel, rfl⟩
theorem eL_654 : di code 654 (.iaload) 1 655 := ⟨by decide +kernel, rfl⟩
theorem eL_655 : di code 655 (.invokevirtual 78) 3 658 := ⟨by decide +kernel, rfl⟩
theorem eL_658 : di code 658 (.aload_n 2) 1 659 := ⟨by decide +kernel, rfl⟩
theorem eL_659 : di code 659 (.aload_n 0) 1 660 := ⟨by decide +kernel, rfl⟩
theorem eL_660 : di code 660 (.iload_n 3) 1 661 := ⟨by decide +kernel, rfl⟩
theorem eL_661 : di code 661 (.iconst 1) 1 662 := ⟨by decide +kernel, rfl⟩
theorem eL_662 : di code 662 (.iadd) 1 663 := ⟨by decide +kernel, rfl⟩
theorem eL_663 : di code 663 (.iaload) 1 664 := ⟨by decide +kernel, rfl⟩
theorem eL_664 : di code 664 (.invokevirtual 81) 3 667 := ⟨by decide +kernel, rfl⟩
theorem eL_667 : dj code 667 (.if_icmp .eq) 670 1226 := ⟨559, by decide +kernel, rfl, rfl⟩
theorem eL_670 : di code 670 (.iconst 0) 1 671 := ⟨by decide +kernel, rfl⟩
theorem eL_671 : di code 671 (.ireturn) 1 672 := ⟨by decide +kernel, rfl⟩
theorem eL_672 : di code 672 (.aload_n 1) 1 673 := ⟨by decide +kernel, rfl⟩
theorem eL_673 : di code 673 (.aload_n 0) 1 674 := ⟨by decide +kernel, rfl⟩
theorem eL_674 : di code 674 (.iload_n 3) 1 675 := ⟨by decide +kernel, rfl⟩
theorem eL_675 : di code 675 (.iconst 1) 1 676 := ⟨by decide +kernel, rfl⟩
theorem eL_676 : di code 676 (.iadd) 1 677 := ⟨by decide +kernel, rfl⟩
theorem eL_677 : di code 677 (.iaload) 1 678 := ⟨by decide +kernel, rfl⟩
theorem eL_678 : di code 678 (.invokevirtual 82) 3 681 := ⟨by decide +kernel, rfl⟩
theorem eL_681 : di code 681 (.aload_n 2) 1 682 := ⟨by decide +kernel, rfl⟩
theorem eL_682 : di code 682 (.aload_n 0) 1 683 := ⟨by decide +kernel, rfl⟩
theorem eL_683 : di code 683 (.iload_n 3) 1 684 := ⟨by decide +kernel, rfl⟩
theorem eL_684 : di code 684 (.iconst 1) 1 685 := ⟨by decide +kernel, rfl⟩
theorem eL_685 : di code 685 (.iadd) 1 686 := ⟨by decide +kernel, rfl⟩
theorem eL_686 : di code 686 (.iaload) 1 687 := ⟨by decide +kernel, rfl⟩
theorem eL_687 : di code 687 (.invokevirtual 85) 3 690 := ⟨by decide +kernel, rfl⟩
theorem eL_690 : dj code 690 (.if_icmp .eq) 693 1226 := ⟨536, by decide +kernel, rfl, rfl⟩
theorem eL_693 : di code 693 (.iconst 0) 1 694 := ⟨by decide +kernel, rfl⟩
theorem eL_694 : di code 694 (.ireturn) 1 695 := ⟨by decide +kernel, rfl⟩
theorem eL_695 : di code 695 (.aload_n 1) 1 696 := ⟨by decide +kernel, rfl⟩
theorem eL_696 : di code 696 (.invokevirtual 86) 3 699 := ⟨by decide +kernel, rfl⟩
theorem eL_699 : di code 699 (.aload_n 2) 1 700 := ⟨by decide +kernel, rfl⟩
theorem eL_700 : di code 700 (.invokevirtual 89) 3 703 := ⟨by decide +kernel, rfl⟩
theorem eL_703 : dj code 703 (.if_icmp .eq) 706 1226 := ⟨523, by decide +kernel, rfl, rfl⟩
theorem eL_706 : di code 706 (.iconst 0) 1 707 := ⟨by decide +kernel, rfl⟩
theorem eL_707 : di code 707 (.ireturn) 1 708 := ⟨by decide +kernel, rfl⟩
theorem eL_708 : di code 708 (.aload_n 1) 1 709 := ⟨by decide +kernel, rfl⟩
theorem eL_709 : di code 709 (.aload_n 0) 1 710 := ⟨by decide +kernel, rfl⟩
theorem eL_710 : di code 710 (.iload_n 3) 1 711 := ⟨by decide +kernel, rfl⟩
theorem eL_711 : di code 711 (.iconst 1) 1 712 := ⟨by decide +kernel, rfl⟩
theorem eL_712 : di code 712 (.iadd) 1 713 := ⟨by decide +kernel, rfl⟩
theorem eL_713 : di code 713 (.iaload) 1 714 := ⟨by decide +kernel, rfl⟩
theorem eL_714 : di code 714 (.invokevirtual 90) 3 717 := ⟨by decide +kernel, rfl⟩
theorem eL_717 : di code 717 (.aload_n 2) 1 718 := ⟨by decide +kernel, rfl⟩
theorem eL_718 : di code 718 (.aload_n 0) 1 719 := ⟨by decide +kernel, rfl⟩
theorem eL_719 : di code 719 (.iload_n 3) 1 720 := ⟨by decide +kernel, rfl⟩
theorem eL_720 : di code 720 (.iconst 1) 1 721 := ⟨by decide +kernel, rfl⟩
theorem eL_721 : di code 721 (.iadd) 1 722 := ⟨by decide +kernel, rfl⟩
theorem eL_722 : di code 722 (.iaload) 1 723 := ⟨by decide +kernel, rfl⟩
theorem eL_723 : di code 723 (.invokevirtual 93) 3 726 := ⟨by decide +kernel, rfl⟩
theorem eL_726 : dj code 726 (.if_icmp .eq) 729 1226 := ⟨500, by decide +kernel, rfl, rfl⟩
theorem eL_729 : di code 729 (.iconst 0) 1 730 := ⟨by decide +kernel, rfl⟩
theorem eL_730 : di code 730 (.ireturn) 1 731 := ⟨by decide +kernel, rfl⟩
theorem eL_731 : di code 731 (.aload_n 1) 1 732 := ⟨by decide +kernel, rfl⟩
theorem eL_732 : di code 732 (.aload_n 0) 1 733 := ⟨by decide +kernel, rfl⟩
theorem eL_733 : di code 733 (.iload_n 3) 1 734 := ⟨by decide +kernel, rfl⟩
theorem eL_734 : di code 734 (.iconst 1) 1 735 := ⟨by decide +kernel, rfl⟩
theorem eL_735 : di code 735 (.iadd) 1 736 := ⟨by decide +kernel, rfl⟩
theorem eL_736 : di code 736 (.iaload) 1 737 := ⟨by decide +kernel, rfl⟩
theorem eL_737 : di code 737 (.aload_n 0) 1 738 := ⟨by decide +kernel, rfl⟩
theorem eL_738 : di code 738 (.iload_n 3) 1 739 := ⟨by decide +kernel, rfl⟩
theorem eL_739 : di code 739 (.iconst 2) 1 740 := ⟨by decide +kernel, rfl⟩
theorem eL_740 : di code 740 (.iadd) 1 741 := ⟨by decide +kernel, rfl⟩
theorem eL_741 : di code 741 (.iaload) 1 742 := ⟨by decide +kernel, rfl⟩
theorem eL_742 : di code 742 (.aload_n 0) 1 743 := ⟨by decide +kernel, rfl⟩
theorem eL_743 : di code 743 (.iload_n 3) 1 744 := ⟨by decide +kernel, rfl⟩
theorem eL_744 : di code 744 (.iconst 3) 1 745 := ⟨by decide +kernel, rfl⟩
theorem eL_745 : di code 745 (.iadd) 1 746 := ⟨by decide +kernel, rfl⟩
theorem eL_746 : di code 746 (.iaload) 1 747 := ⟨by decide +kernel, rfl⟩
theorem eL_747 : di code 747 (.aload_n 0) 1 748 := ⟨by decide +kernel, rfl⟩
theorem eL_748 : di code 748 (.iload_n 3) 1 749 := ⟨by decide +kernel, rfl⟩
theorem eL_749 : di code 749 (.iconst 4) 1 750 := ⟨by decide +kernel, rfl⟩
theorem eL_750 : di code 750 (.iadd) 1 751 := ⟨by decide +kernel, rfl⟩
theorem eL_751 : di code 751 (.iaload) 1 752 := ⟨by decide +kernel, rfl⟩
theorem eL_752 : di code 752 (.invokevirtual 94) 3 755 := ⟨by decide +kernel, rfl⟩
theorem eL_755 : di code 755 (.aload_n 2) 1 756 := ⟨by decide +kernel, rfl⟩
theorem eL_756 : di code 756 (.aload_n 0) 1 757 := ⟨by decide +kernel, rfl⟩
theorem eL_757 : di code 757 (.iload_n 3) 1 758 := ⟨by decide +kernel, rfl⟩
theorem eL_758 : di code 758 (.iconst 1) 1 759 := ⟨by decide +kernel, rfl⟩
theorem eL_759 : di code 759 (.iadd) 1 760 := ⟨by decide +kernel, rfl⟩
theorem eL_760 : di code 760 (.iaload) 1 761 := ⟨by decide +kernel, rfl⟩
theorem eL_761 : di code 761 (.aload_n 0) 1 762 := ⟨by decide +kernel, rfl⟩
theorem eL_762 : di code 762 (.iload_n 3) 1 763 := ⟨by decide +kernel, rfl⟩
theorem eL_763 : di code 763 (.iconst 2) 1 764 := ⟨by decide +kernel, rfl⟩
theorem eL_764 : di code 764 (.iadd) 1 765 := ⟨by decide +kernel, rfl⟩
theorem eL_765 : di code 765 (.iaload) 1 766 := ⟨by decide +kernel, rfl⟩
theorem eL_766 : di code 766 (.aload_n 0) 1 767 := ⟨by decide +kernel, rfl⟩
theorem eL_767 : di code 767 (.iload_n 3) 1 768 := ⟨by decide +kernel, rfl⟩
theorem eL_768 : di code 768 (.iconst 3) 1 769 := ⟨by decide +kernel, rfl⟩
theorem eL_769 : di code 769 (.iadd) 1 770 := ⟨by decide +kernel, rfl⟩
theorem eL_770 : di code 770 (.iaload) 1 771 := ⟨by decide +kernel, rfl⟩
theorem eL_771 : di code 771 (.aload_n 0) 1 772 := ⟨by decide +kernel, rfl⟩
theorem eL_772 : di code 772 (.iload_n 3) 1 773 := ⟨by decide +kernel, rfl⟩
theorem eL_773 : di code 773 (.iconst 4) 1 774 := ⟨by decide +kernel, rfl⟩
theorem eL_774 : di code 774 (.iadd) 1 775 := ⟨by decide +kernel, rfl⟩
theorem eL_775 : di code 775 (.iaload) 1 776 := ⟨by decide +kernel, rfl⟩
theorem eL_776 : di code 776 (.invokevirtual 97) 3 779 := ⟨by decide +kernel, rfl⟩
theorem eL_779 : dj code 779 (.if_icmp .eq) 782 1226 := ⟨447, by decide +kernel, rfl, rfl⟩
theorem eL_782 : di code 782 (.iconst 0) 1 783 := ⟨by decide +kernel, rfl⟩
theorem eL_783 : di code 783 (.ireturn) 1 784 := ⟨by decide +kernel, rfl⟩
theorem eL_784 : di code 784 (.aload_n 1) 1 785 := ⟨by decide +kernel, rfl⟩
theorem eL_785 : di code 785 (.aload_n 0) 1 786 := ⟨by decide +kernel, rfl⟩
theorem eL_786 : di code 786 (.iload_n 3) 1 787 := ⟨by decide +kernel, rfl⟩
theorem eL_787 : di code 787 (.iconst 1) 1 788 := ⟨by decide +kernel, rfl⟩
theorem eL_788 : di code 788 (.iadd) 1 789 := ⟨by decide +kernel, rfl⟩
theorem eL_789 : di code 789 (.iaload) 1 790 := ⟨by decide +kernel, rfl⟩
theorem eL_790 : di code 790 (.aload_n 0) 1 791 := ⟨by decide +kernel, rfl⟩
theorem eL_791 : di code 791 (.iload_n 3) 1 792 := ⟨by decide +kernel, rfl⟩
theorem eL_792 : di code 792 (.iconst 2) 1 793 := ⟨by decide +kernel, rfl⟩
theorem eL_793 : di code 793 (.iadd) 1 794 := ⟨by decide +kernel, rfl⟩
theorem eL_794 : di code 794 (.iaload) 1 795 := ⟨by decide +kernel, rfl⟩
theorem eL_795 : di code 795 (.aload_n 0) 1 796 := ⟨by decide +kernel, rfl⟩
theorem eL_796 : di code 796 (.iload_n 3) 1 797 := ⟨by decide +kernel, rfl⟩
theorem eL_797 : di code 797 (.iconst 3) 1 798 := ⟨by decide +kernel, rfl⟩
theorem eL_798 : di code 798 (.iadd) 1 799 := ⟨by decide +kernel, rfl⟩
theorem eL_799 : di code 799 (.iaload) 1 800 := ⟨by decide +kernel, rfl⟩
theorem eL_800 : di code 800 (.aload_n 0) 1 801 := ⟨by decide +kernel, rfl⟩
theorem eL_801 : di code 801 (.iload_n 3) 1 802 := ⟨by decide +kernel, rfl⟩
theorem eL_802 : di code 802 (.iconst 4) 1 803 := ⟨by decide +kernel, rfl⟩
theorem eL_803 : di code 803 (.iadd) 1 804 := ⟨by decide +kernel, rfl⟩
theorem eL_804 : di code 804 (.iaload) 1 805 := ⟨by decide +kernel, rfl⟩
theorem eL_805 : di code 805 (.invokevirtual 98) 3 808 := ⟨by decide +kernel, rfl⟩
theorem eL_808 : di code 808 (.aload_n 2) 1 809 := ⟨by decide +kernel, rfl⟩
theorem eL_809 : di code 809 (.aload_n 0) 1 810 := ⟨by decide +kernel, rfl⟩
theorem eL_810 : di code 810 (.iload_n 3) 1 811 := ⟨by decide +kernel, rfl⟩
theorem eL_811 : di code 811 (.iconst 1) 1 812 := ⟨by decide +kernel, rfl⟩
theorem eL_812 : di code 812 (.iadd) 1 813 := ⟨by decide +kernel, rfl⟩
theorem eL_813 : di code 813 (.iaload) 1 814 := ⟨by decide +kernel, rfl⟩
theorem eL_814 : di code 814 (.aload_n 0) 1 815 := ⟨by decide +kernel, rfl⟩
theorem eL_815 : di code 815 (.iload_n 3) 1 816 := ⟨by decide +kernel, rfl⟩
theorem eL_816 : di code 816 (.iconst 2) 1 817 := ⟨by decide +kernel, rfl⟩
theorem eL_817 : di code 817 (.iadd) 1 818 := ⟨by decide +kernel, rfl⟩
theorem eL_818 : di code 818 (.iaload) 1 819 := ⟨by decide +kernel, rfl⟩
theorem eL_819 : di code 819 (.aload_n 0) 1 820 := ⟨by decide +kernel, rfl⟩
theorem eL_820 : di code 820 (.iload_n 3) 1 821 := ⟨by decide +kernel, rfl⟩
theorem eL_821 : di code 821 (.iconst 3) 1 822 := ⟨by decide +kernel, rfl⟩
theorem eL_822 : di code 822 (.iadd) 1 823 := ⟨by decide +kernel, rfl⟩
theorem eL_823 : di code 823 (.iaload) 1 824 := ⟨by decide +kernel, rfl⟩
theorem eL_824 : di code 824 (.aload_n 0) 1 825 := ⟨by decide +kernel, rfl⟩
theorem eL_825 : di code 825 (.iload_n 3) 1 826 := ⟨by decide +kernel, rfl⟩
theorem eL_826 : di code 826 (.iconst 4) 1 827 := ⟨by decide +kernel, rfl⟩
theorem eL_827 : di code 827 (.iadd) 1 828 := ⟨by decide +kernel, rfl⟩
theorem eL_828 : di code 828 (.iaload) 1 829 := ⟨by decide +kernel, rfl⟩
theorem eL_829 : di code 829 (.invokevirtual 101) 3 832 := ⟨by decide +kernel, rfl⟩
theorem eL_832 : dj code 832 (.if_icmp .eq) 835 1226 := ⟨394, by decide +kernel, rfl, rfl⟩
theorem eL_835 : di code 835 (.iconst 0) 1 836 := ⟨by decide +kernel, rfl⟩
theorem eL_836 : di code 836 (.ireturn) 1 837 := ⟨by decide +kernel, rfl⟩
theorem eL_837 : di code 837 (.aload_n 1) 1 838 := ⟨by decide +kernel, rfl⟩
theorem eL_838 : di code 838 (.aload_n 0) 1 839 := ⟨by decide +kernel, rfl⟩
theorem eL_839 : di code 839 (.iload_n 3) 1 840 := ⟨by decide +kernel, rfl⟩
theorem eL_840 : di code 840 (.iconst 1) 1 841 := ⟨by decide +kernel, rfl⟩
theorem eL_841 : di code 841 (.iadd) 1 842 := ⟨by decide +kernel, rfl⟩
theorem eL_842 : di code 842 (.iaload) 1 843 := ⟨by decide +kernel, rfl⟩
theorem eL_843 : di code 843 (.aload_n 0) 1 844 := ⟨by decide +kernel, rfl⟩
theorem eL_844 : di code 844 (.iload_n 3) 1 845 := ⟨by decide +kernel, rfl⟩
theorem eL_845 : di code 845 (.iconst 2) 1 846 := ⟨by decide +kernel, rfl⟩
theorem eL_846 : di code 846 (.iadd) 1 847 := ⟨by decide +kernel, rfl⟩
theorem eL_847 : di code 847 (.iaload) 1 848 := ⟨by decide +kernel, rfl⟩
theorem eL_848 : di code 848 (.aload_n 0) 1 849 := ⟨by decide +kernel, rfl⟩
theorem eL_849 : di code 849 (.iload_n 3) 1 850 := ⟨by decide +kernel, rfl⟩
theorem eL_850 : di code 850 (.iconst 3) 1 851 := ⟨by decide +kernel, rfl⟩
theorem eL_851 : di code 851 (.iadd) 1 852 := ⟨by decide +kernel, rfl⟩
theorem eL_852 : di code 852 (.iaload) 1 853 := ⟨by decide +kernel, rfl⟩
theorem eL_853 : di code 853 (.invokevirtual 102) 3 856 := ⟨by decide +kernel, rfl⟩
theorem eL_856 : di code 856 (.aload_n 2) 1 857 := ⟨by decide +kernel, rfl⟩
theorem eL_857 : di code 857 (.aload_n 0) 1 858 := ⟨by decide +kernel, rfl⟩
theorem eL_858 : di code 858 (.iload_n 3) 1 859 := ⟨by decide +kernel, rfl⟩
theorem eL_859 : di code 859 (.iconst 1) 1 860 := ⟨by decide +kernel, rfl⟩
theorem eL_860 : di code 860 (.iadd) 1 861 := ⟨by decide +kernel, rfl⟩
theorem eL_861 : di code 861 (.iaload) 1 862 := ⟨by decide +kernel, rfl⟩
theorem eL_862 : di code 862 (.aload_n 0) 1 863 := ⟨by decide +kernel, rfl⟩
theorem eL_863 : di code 863 (.iload_n 3) 1 864 := ⟨by decide +kernel, rfl⟩
theorem eL_864 : di code 864 (.iconst 2) 1 865 := ⟨by decide +kernel, rfl⟩
theorem eL_865 : di code 865 (.iadd) 1 866 := ⟨by decide +kernel, rfl⟩
theorem eL_866 : di code 866 (.iaload) 1 867 := ⟨by decide +kernel, rfl⟩
theorem eL_867 : di code 867 (.aload_n 0) 1 868 := ⟨by decide +kernel, rfl⟩
theorem eL_868 : di code 868 (.iload_n 3) 1 869 := ⟨by decide +kernel, rfl⟩
theorem eL_869 : di code 869 (.iconst 3) 1 870 := ⟨by decide +kernel, rfl⟩
theorem eL_870 : di code 870 (.iadd) 1 871 := ⟨by decide +kernel, rfl⟩
theorem eL_871 : di code 871 (.iaload) 1 872 := ⟨by decide +kernel, rfl⟩
theorem eL_872 : di code 872 (.invokevirtual 105) 3 875 := ⟨by decide +kernel, rfl⟩
theorem eL_875 : dj code 875 (.if_icmp .eq) 878 1226 := ⟨351, by decide +kernel, rfl, rfl⟩
theorem eL_878 : di code 878 (.iconst 0) 1 879 := ⟨by decide +kernel, rfl⟩
theorem eL_879 : di code 879 (.ireturn) 1 880 := ⟨by decide +kernel, rfl⟩
theorem eL_880 : di code 880 (.aload_n 1) 1 881 := ⟨by decide +kernel, rfl⟩
theorem eL_881 : di code 881 (.aload_n 0) 1 882 := ⟨by decide +kernel, rfl⟩
theorem eL_882 : di code 882 (.iload_n 3) 1 883 := ⟨by decide +kernel, rfl⟩
theorem eL_883 : di code 883 (.iconst 1) 1 884 := ⟨by decide +kernel, rfl⟩
theorem eL_884 : di code 884 (.iadd) 1 885 := ⟨by decide +kernel, rfl⟩
theorem eL_885 : di code 885 (.iaload) 1 886 := ⟨by decide +kernel, rfl⟩
theorem eL_886 : di code 886 (.invokevirtual 106) 3 889 := ⟨by decide +kernel, rfl⟩
theorem eL_889 : di code 889 (.aload_n 2) 1 890 := ⟨by decide +kernel, rfl⟩
theorem eL_890 : di code 890 (.aload_n 0) 1 891 := ⟨by decide +kernel, rfl⟩
theorem eL_891 : di code 891 (.iload_n 3) 1 892 := ⟨by decide +kernel, rfl⟩
theorem eL_892 : di code 892 (.iconst 1) 1 893 := ⟨by decide +kernel, rfl⟩
theorem eL_893 : di code 893 (.iadd) 1 894 := ⟨by decide +kernel, rfl⟩
theorem eL_894 : di code 894 (.iaload) 1 895 := ⟨by decide +kernel, rfl⟩
theorem eL_895 : di code 895 (.invokevirtual 109) 3 898 := ⟨by decide +kernel, rfl⟩
theorem eL_898 : dj code 898 (.if_icmp .eq) 901 1226 := ⟨328, by decide +kernel, rfl, rfl⟩
theorem eL_901 : di code 901 (.iconst 0) 1 902 := ⟨by decide +kernel, rfl⟩
theorem eL_902 : di code 902 (.ireturn) 1 903 := ⟨by decide +kernel, rfl⟩
theorem eL_903 : di code 903 (.aload_n 1) 1 904 := ⟨by decide +kernel, rfl⟩
theorem eL_904 : di code 904 (.aload_n 0) 1 905 := ⟨by decide +kernel, rfl⟩
theorem eL_905 : di code 905 (.iload_n 3) 1 906 := ⟨by decide +kernel, rfl⟩
theorem eL_906 : di code 906 (.iconst 1) 1 907 := ⟨by decide +kernel, rfl⟩
theorem eL_907 : di code 907 (.iadd) 1 908 := ⟨by decide +kernel, rfl⟩
theorem eL_908 : di code 908 (.iaload) 1 909 := ⟨by decide +kernel, rfl⟩
theorem eL_909 : di code 909 (.aload_n 0) 1 910 := ⟨by decide +kernel, rfl⟩
theorem eL_910 : di code 910 (.iload_n 3) 1 911 := ⟨by decide +kernel, rfl⟩
theorem eL_911 : di code 911 (.iconst 2) 1 912 := ⟨by decide +kernel, rfl⟩
theorem eL_912 : di code 912 (.iadd) 1 913 := ⟨by decide +kernel, rfl⟩
theorem eL_913 : di code 913 (.iaload) 1 914 := ⟨by decide +kernel, rfl⟩
theorem eL_914 : di code 914 (.aload_n 0) 1 915 := ⟨by decide +kernel, rfl⟩
theorem eL_915 : di code 915 (.iload_n 3) 1 916 := ⟨by decide +kernel, rfl⟩
theorem eL_916 : di code 916 (.iconst 3) 1 917 := ⟨by decide +kernel, rfl⟩
theorem eL_917 : di code 917 (.iadd) 1 918 := ⟨by decide +kernel, rfl⟩
theorem eL_918 : di code 918 (.iaload) 1 919 := ⟨by decide +kernel, rfl⟩
theorem eL_919 : di code 919 (.invokevirtual 110) 3 922 := ⟨by decide +kernel, rfl⟩
theorem eL_922 : di code 922 (.aload_n 2) 1 923 := ⟨by decide +kernel, rfl⟩
theorem eL_923 : di code 923 (.aload_n 0) 1 924 := ⟨by decide +kernel, rfl⟩
theorem eL_924 : di code 924 (.iload_n 3) 1 925 := ⟨by decide +kernel, rfl⟩
theorem eL_925 : di code 925 (.iconst 1) 1 926 := ⟨by decide +kernel, rfl⟩
theorem eL_926 : di code 926 (.iadd) 1 927 := ⟨by decide +kernel, rfl⟩
theorem eL_927 : di code 927 (.iaload) 1 928 := ⟨by decide +kernel, rfl⟩
theorem eL_928 : di code 928 (.aload_n 0) 1 929 := ⟨by decide +kernel, rfl⟩
theorem eL_929 : di code 929 (.iload_n 3) 1 930 := ⟨by decide +kernel, rfl⟩
theorem eL_930 : di code 930 (.iconst 2) 1 931 := ⟨by decide +kernel, rfl⟩
theorem eL_931 : di code 931 (.iadd) 1 932 := ⟨by decide +kernel, rfl⟩
theorem eL_932 : di code 932 (.iaload) 1 933 := ⟨by decide +kernel, rfl⟩
theorem eL_933 : di code 933 (.aload_n 0) 1 934 := ⟨by decide +kernel, rfl⟩
theorem eL_934 : di code 934 (.iload_n 3) 1 935 := ⟨by decide +kernel, rfl⟩
theorem eL_935 : di code 935 (.iconst 3) 1 936 := ⟨by decide +kernel, rfl⟩
theorem eL_936 : di code 936 (.iadd) 1 937 := ⟨by decide +kernel, rfl⟩
theorem eL_937 : di code 937 (.iaload) 1 938 := ⟨by decide +kernel, rfl⟩
theorem eL_938 : di code 938 (.invokevirtual 113) 3 941 := ⟨by decide +kernel, rfl⟩
theorem eL_941 : dj code 941 (.if_icmp .eq) 944 1226 := ⟨285, by decide +kernel, rfl, rfl⟩
theorem eL_944 : di code 944 (.iconst 0) 1 945 := ⟨by decide +kernel, rfl⟩
theorem eL_945 : di code 945 (.ireturn) 1 946 := ⟨by decide +kernel, rfl⟩
theorem eL_946 : di code 946 (.aload_n 1) 1 947 := ⟨by decide +kernel, rfl⟩
theorem eL_947 : di code 947 (.aload_n 0) 1 948 := ⟨by decide +kernel, rfl⟩
theorem eL_948 : di code 948 (.iload_n 3) 1 949 := ⟨by decide +kernel, rfl⟩
theorem eL_949 : di code 949 (.iconst 1) 1 950 := ⟨by decide +kernel, rfl⟩
theorem eL_950 : di code 950 (.iadd) 1 951 := ⟨by decide +kernel, rfl⟩
theorem eL_951 : di code 951 (.iaload) 1 952 := ⟨by decide +kernel, rfl⟩
theorem eL_952 : di code 952 (.invokevirtual 114) 3 955 := ⟨by decide +kernel, rfl⟩
theorem eL_955 : di code 955 (.aload_n 2) 1 956 := ⟨by decide +kernel, rfl⟩
theorem eL_956 : di code 956 (.aload_n 0) 1 957 := ⟨by decide +kernel, rfl⟩
theorem eL_957 : di code 957 (.iload_n 3) 1 958 := ⟨by decide +kernel, rfl⟩
theorem eL_958 : di code 958 (.iconst 1) 1 959 := ⟨by decide +kernel, rfl⟩
theorem eL_959 : di code 959 (.iadd) 1 960 := ⟨by decide +kernel, rfl⟩
theorem eL_960 : di code 960 (.iaload) 1 961 := ⟨by decide +kernel, rfl⟩
theorem eL_961 : di code 961 (.invokevirtual 117) 3 964 := ⟨by decide +kernel, rfl⟩
theorem eL_964 : dj code 964 (.if_icmp .eq) 967 1226 := ⟨262, by decide +kernel, rfl, rfl⟩
theorem eL_967 : di code 967 (.iconst 0) 1 968 := ⟨by decide +kernel, rfl⟩
theorem eL_968 : di code 968 (.ireturn) 1 969 := ⟨by decide +kernel, rfl⟩
theorem eL_969 : di code 969 (.aload_n 1) 1 970 := ⟨by decide +kernel, rfl⟩
theorem eL_970 : di code 970 (.aload_n 0) 1 971 := ⟨by decide +kernel, rfl⟩
theorem eL_971 : di code 971 (.iload_n 3) 1 972 := ⟨by decide +kernel, rfl⟩
theorem eL_972 : di code 972 (.iconst 1) 1 973 := ⟨by decide +kernel, rfl⟩
theorem eL_973 : di code 973 (.iadd) 1 974 := ⟨by decide +kernel, rfl⟩
theorem eL_974 : di code 974 (.iaload) 1 975 := ⟨by decide +kernel, rfl⟩
theorem eL_975 : di code 975 (.aload_n 0) 1 976 := ⟨by decide +kernel, rfl⟩
theorem eL_976 : di code 976 (.iload_n 3) 1 977 := ⟨by decide +kernel, rfl⟩
theorem eL_977 : di code 977 (.iconst 2) 1 978 := ⟨by decide +kernel, rfl⟩
theorem eL_978 : di code 978 (.iadd) 1 979 := ⟨by decide +kernel, rfl⟩
theorem eL_979 : di code 979 (.iaload) 1 980 := ⟨by decide +kernel, rfl⟩
theorem eL_980 : di code 980 (.aload_n 0) 1 981 := ⟨by decide +kernel, rfl⟩
theorem eL_981 : di code 981 (.iload_n 3) 1 982 := ⟨by decide +kernel, rfl⟩
theorem eL_982 : di code 982 (.iconst 3) 1 983 := ⟨by decide +kernel, rfl⟩
theorem eL_983 : di code 983 (.iadd) 1 984 := ⟨by decide +kernel, rfl⟩
theorem eL_984 : di code 984 (.iaload) 1 985 := ⟨by decide +kernel, rfl⟩
theorem eL_985 : di code 985 (.invokevirtual 118) 3 988 := ⟨by decide +kernel, rfl⟩
theorem eL_988 : di code 988 (.aload_n 2) 1 989 := ⟨by decide +kernel, rfl⟩
theorem eL_989 : di code 989 (.aload_n 0) 1 990 := ⟨by decide +kernel, rfl⟩
theorem eL_990 : di code 990 (.iload_n 3) 1 991 := ⟨by decide +kernel, rfl⟩
theorem eL_991 : di code 991 (.iconst 1) 1 992 := ⟨by decide +kernel, rfl⟩
theorem eL_992 : di code 992 (.iadd) 1 993 := ⟨by decide +kernel, rfl⟩
theorem eL_993 : di code 993 (.iaload) 1 994 := ⟨by decide +kernel, rfl⟩
theorem eL_994 : di code 994 (.aload_n 0) 1 995 := ⟨by decide +kernel, rfl⟩
theorem eL_995 : di code 995 (.iload_n 3) 1 996 := ⟨by decide +kernel, rfl⟩
theorem eL_996 : di code 996 (.iconst 2) 1 997 := ⟨by decide +kernel, rfl⟩
theorem eL_997 : di code 997 (.iadd) 1 998 := ⟨by decide +kernel, rfl⟩
theorem eL_998 : di code 998 (.iaload) 1 999 := ⟨by decide +kernel, rfl⟩
theorem eL_999 : di code 999 (.aload_n 0) 1 1000 := ⟨by decide +kernel, rfl⟩
theorem eL_1000 : di code 1000 (.iload_n 3) 1 1001 := ⟨by decide +kernel, rfl⟩
theorem eL_1001 : di code 1001 (.iconst 3) 1 1002 := ⟨by decide +kernel, rfl⟩
theorem eL_1002 : di code 1002 (.iadd) 1 1003 := ⟨by decide +kernel, rfl⟩
theorem eL_1003 : di code 1003 (.iaload) 1 1004 := ⟨by decide +kernel, rfl⟩
theorem eL_1004 : di code 1004 (.invokevirtual 121) 3 1007 := ⟨by decide +kernel, rfl⟩
theorem eL_1007 : dj code 1007 (.if_icmp .eq) 1010 1226 := ⟨219, by decide +kernel, rfl, rfl⟩
theorem eL_1010 : di code 1010 (.iconst 0) 1 1011 := ⟨by decide +kernel, rfl⟩
theorem eL_1011 : di code 1011 (.ireturn) 1 1012 := ⟨by decide +kernel, rfl⟩
theorem eL_1012 : di code 1012 (.aload_n 1) 1 1013 := ⟨by decide +kernel, rfl⟩
theorem eL_1013 : di code 1013 (.aload_n 0) 1 1014 := ⟨by decide +kernel, rfl⟩
theorem eL_1014 : di code 1014 (.iload_n 3) 1 1015 := ⟨by decide +kernel, rfl⟩
theorem eL_1015 : di code 1015 (.iconst 1) 1 1016 := ⟨by decide +kernel, rfl⟩
theorem eL_1016 : di code 1016 (.iadd) 1 1017 := ⟨by decide +kernel, rfl⟩
theorem eL_1017 : di code 1017 (.iaload) 1 1018 := ⟨by decide +kernel, rfl⟩
theorem eL_1018 : di code 1018 (.aload_n 0) 1 1019 := ⟨by decide +kernel, rfl⟩
theorem eL_1019 : di code 1019 (.iload_n 3) 1 1020 := ⟨by decide +kernel, rfl⟩
theorem eL_1020 : di code 1020 (.iconst 2) 1 1021 := ⟨by decide +kernel, rfl⟩
theorem eL_1021 : di code 1021 (.iadd) 1 1022 := ⟨by decide +kernel, rfl⟩
theorem eL_1022 : di code 1022 (.iaload) 1 1023 := ⟨by decide +kernel, rfl⟩
theorem eL_1023 : di code 1023 (.invokevirtual 122) 3 1026 := ⟨by decide +kernel, rfl⟩
theorem eL_1026 : di code 1026 (.aload_n 2) 1 1027 := ⟨by decide +kernel, rfl⟩
theorem eL_1027 : di code 1027 (.aload_n 0) 1 1028 := ⟨by decide +kernel, rfl⟩
theorem eL_1028 : di code 1028 (.iload_n 3) 1 1029 := ⟨by decide +kernel, rfl⟩
theorem eL_1029 : di code 1029 (.iconst 1) 1 1030 := ⟨by decide +kernel, rfl⟩
theorem eL_1030 : di code 1030 (.iadd) 1 1031 := ⟨by decide +kernel, rfl⟩
theorem eL_1031 : di code 1031 (.iaload) 1 1032 := ⟨by decide +kernel, rfl⟩
theorem eL_1032 : di code 1032 (.aload_n 0) 1 1033 := ⟨by decide +kernel, rfl⟩
theorem eL_1033 : di code 1033 (.iload_n 3) 1 1034 := ⟨by decide +kernel, rfl⟩
theorem eL_1034 : di code 1034 (.iconst 2) 1 1035 := ⟨by decide +kernel, rfl⟩
theorem eL_1035 : di code 1035 (.iadd) 1 1036 := ⟨by decide +kernel, rfl⟩
theorem eL_1036 : di code 1036 (.iaload) 1 1037 := ⟨by decide +kernel, rfl⟩
theorem eL_1037 : di code 1037 (.invokevirtual 125) 3 1040 := ⟨by decide +kernel, rfl⟩
theorem eL_1040 : dj code 1040 (.if_icmp .eq) 1043 1226 := ⟨186, by decide +kernel, rfl, rfl⟩
theorem eL_1043 : di code 1043 (.iconst 0) 1 1044 := ⟨by decide +kernel, rfl⟩
theorem eL_1044 : di code 1044 (.ireturn) 1 1045 := ⟨by decide +kernel, rfl⟩
theorem eL_1045 : di code 1045 (.aload_n 1) 1 1046 := ⟨by decide +kernel, rfl⟩
theorem eL_1046 : di code 1046 (.aload_n 0) 1 1047 := ⟨by decide +kernel, rfl⟩
theorem eL_1047 : di code 1047 (.iload_n 3) 1 1048 := ⟨by decide +kernel, rfl⟩
theorem eL_1048 : di code 1048 (.iconst 1) 1 1049 := ⟨by decide +kernel, rfl⟩
theorem eL_1049 : di code 1049 (.iadd) 1 1050 := ⟨by decide +kernel, rfl⟩
theorem eL_1050 : di code 1050 (.iaload) 1 1051 := ⟨by decide +kernel, rfl⟩
theorem eL_1051 : di code 1051 (.aload_n 0) 1 1052 := ⟨by decide +kernel, rfl⟩
theorem eL_1052 : di code 1052 (.iload_n 3) 1 1053 := ⟨by decide +kernel, rfl⟩
theorem eL_1053 : di code 1053 (.iconst 2) 1 1054 := ⟨by decide +kernel, rfl⟩
theorem eL_1054 : di code 1054 (.iadd) 1 1055 := ⟨by decide +kernel, rfl⟩
theorem eL_1055 : di code 1055 (.iaload) 1 1056 := ⟨by decide +kernel, rfl⟩
theorem eL_1056 : di code 1056 (.invokevirtual 126) 3 1059 := ⟨by decide +kernel, rfl⟩
theorem eL_1059 : di code 1059 (.aload_n 2) 1 1060 := ⟨by decide +kernel, rfl⟩
theorem eL_1060 : di code 1060 (.aload_n 0) 1 1061 := ⟨by decide +kernel, rfl⟩
theorem eL_1061 : di code 1061 (.iload_n 3) 1 1062 := ⟨by decide +kernel, rfl⟩
theorem eL_1062 : di code 1062 (.iconst 1) 1 1063 := ⟨by decide +kernel, rfl⟩
theorem eL_1063 : di code 1063 (.iadd) 1 1064 := ⟨by decide +kernel, rfl⟩
theorem eL_1064 : di code 1064 (.iaload) 1 1065 := ⟨by decide +kernel, rfl⟩
theorem eL_1065 : di code 1065 (.aload_n 0) 1 1066 := ⟨by decide +kernel, rfl⟩
theorem eL_1066 : di code 1066 (.iload_n 3) 1 1067 := ⟨by decide +kernel, rfl⟩
theorem eL_1067 : di code 1067 (.iconst 2) 1 1068 := ⟨by decide +kernel, rfl⟩
theorem eL_1068 : di code 1068 (.iadd) 1 1069 := ⟨by decide +kernel, rfl⟩
theorem eL_1069 : di code 1069 (.iaload) 1 1070 := ⟨by decide +kernel, rfl⟩
theorem eL_1070 : di code 1070 (.invokevirtual 129) 3 1073 := ⟨by decide +kernel, rfl⟩
theorem eL_1073 : dj code 1073 (.if_icmp .eq) 1076 1226 := ⟨153, by decide +kernel, rfl, rfl⟩
theorem eL_1076 : di code 1076 (.iconst 0) 1 1077 := ⟨by decide +kernel, rfl⟩
theorem eL_1077 : di code 1077 (.ireturn) 1 1078 := ⟨by decide +kernel, rfl⟩
theorem eL_1078 : di code 1078 (.aload_n 1) 1 1079 := ⟨by decide +kernel, rfl⟩
theorem eL_1079 : di code 1079 (.aload_n 0) 1 1080 := ⟨by decide +kernel, rfl⟩
theorem eL_1080 : di code 1080 (.iload_n 3) 1 1081 := ⟨by decide +kernel, rfl⟩
theorem eL_1081 : di code 1081 (.iconst 1) 1 1082 := ⟨by decide +kernel, rfl⟩
theorem eL_1082 : di code 1082 (.iadd) 1 1083 := ⟨by decide +kernel, rfl⟩
theorem eL_1083 : di code 1083 (.iaload) 1 1084 := ⟨by decide +kernel, rfl⟩
theorem eL_1084 : di code 1084 (.invokevirtual 130) 3 1087 := ⟨by decide +kernel, rfl⟩
theorem eL_1087 : di code 1087 (.aload_n 2) 1 1088 := ⟨by decide +kernel, rfl⟩
theorem eL_1088 : di code 1088 (.aload_n 0) 1 1089 := ⟨by decide +kernel, rfl⟩
theorem eL_1089 : di code 1089 (.iload_n 3) 1 1090 := ⟨by decide +kernel, rfl⟩
theorem eL_1090 : di code 1090 (.iconst 1) 1 1091 := ⟨by decide +kernel, rfl⟩
theorem eL_1091 : di code 1091 (.iadd) 1 1092 := ⟨by decide +kernel, rfl⟩
theorem eL_1092 : di code 1092 (.iaload) 1 1093 := ⟨by decide +kernel, rfl⟩
theorem eL_1093 : di code 1093 (.invokevirtual 133) 3 1096 := ⟨by decide +kernel, rfl⟩
theorem eL_1096 : dj code 1096 (.if_icmp .eq) 1099 1226 := ⟨130, by decide +kernel, rfl, rfl⟩
theorem eL_1099 : di code 1099 (.iconst 0) 1 1100 := ⟨by decide +kernel, rfl⟩
theorem eL_1100 : di code 1100 (.ireturn) 1 1101 := ⟨by decide +kernel, rfl⟩
theorem eL_1101 : di code 1101 (.aload_n 1) 1 1102 := ⟨by decide +kernel, rfl⟩
theorem eL_1102 : di code 1102 (.aload_n 0) 1 1103 := ⟨by decide +kernel, rfl⟩
theorem eL_1103 : di code 1103 (.iload_n 3) 1 1104 := ⟨by decide +kernel, rfl⟩
theorem eL_1104 : di code 1104 (.iconst 1) 1 1105 := ⟨by decide +kernel, rfl⟩
theorem eL_1105 : di code 1105 (.iadd) 1 1106 := ⟨by decide +kernel, rfl⟩
theorem eL_1106 : di code 1106 (.iaload) 1 1107 := ⟨by decide +kernel, rfl⟩
theorem eL_1107 : di code 1107 (.aload_n 0) 1 1108 := ⟨by decide +kernel, rfl⟩
theorem eL_1108 : di code 1108 (.iload_n 3) 1 1109 := ⟨by decide +kernel, rfl⟩
theorem eL_1109 : di code 1109 (.iconst 2) 1 1110 := ⟨by decide +kernel, rfl⟩
theorem eL_1110 : di code 1110 (.iadd) 1 1111 := ⟨by decide +kernel, rfl⟩
theorem eL_1111 : di code 1111 (.iaload) 1 1112 := ⟨by decide +kernel, rfl⟩
theorem eL_1112 : di code 1112 (.invokevirtual 134) 3 1115 := ⟨by decide +kernel, rfl⟩
theorem eL_1115 : di code 1115 (.aload_n 2) 1 1116 := ⟨by decide +kernel, rfl⟩
theorem eL_1116 : di code 1116 (.aload_n 0) 1 1117 := ⟨by decide +kernel, rfl⟩
theorem eL_1117 : di code 1117 (.iload_n 3) 1 1118 := ⟨by decide +kernel, rfl⟩
theorem eL_1118 : di code 1118 (.iconst 1) 1 1119 := ⟨by decide +kernel, rfl⟩
theorem eL_1119 : di code 1119 (.iadd) 1 1120 := ⟨by decide +kernel, rfl⟩
theorem eL_1120 : di code 1120 (.iaload) 1 1121 := ⟨by decide +kernel, rfl⟩
theorem eL_1121 : di code 1121 (.aload_n 0) 1 1122 := ⟨by decide +kernel, rfl⟩
theorem eL_1122 : di code 1122 (.iload_n 3) 1 1123 := ⟨by decide +kernel, rfl⟩
theorem eL_1123 : di code 1123 (.iconst 2) 1 1124 := ⟨by decide +kernel, rfl⟩
theorem eL_1124 : di code 1124 (.iadd) 1 1125 := ⟨by decide +kernel, rfl⟩
theorem eL_1125 : di code 1125 (.iaload) 1 1126 := ⟨by decide +kernel, rfl⟩
theorem eL_1126 : di code 1126 (.invokevirtual 137) 3 1129 := ⟨by decide +kernel, rfl⟩
theorem eL_1129 : dj code 1129 (.if_icmp .eq) 1132 1226 := ⟨97, by decide +kernel, rfl, rfl⟩
theorem eL_1132 : di code 1132 (.iconst 0) 1 1133 := ⟨by decide +kernel, rfl⟩
theorem eL_1133 : di code 1133 (.ireturn) 1 1134 := ⟨by decide +kernel, rfl⟩
theorem eL_1134 : di code 1134 (.aload_n 1) 1 1135 := ⟨by decide +kernel, rfl⟩
theorem eL_1135 : di code 1135 (.aload_n 0) 1 1136 := ⟨by decide +kernel, rfl⟩
theorem eL_1136 : di code 1136 (.iload_n 3) 1 1137 := ⟨by decide +kernel, rfl⟩
theorem eL_1137 : di code 1137 (.iconst 1) 1 1138 := ⟨by decide +kernel, rfl⟩
theorem eL_1138 : di code 1138 (.iadd) 1 1139 := ⟨by decide +kernel, rfl⟩
theorem eL_1139 : di code 1139 (.iaload) 1 1140 := ⟨by decide +kernel, rfl⟩
theorem eL_1140 : di code 1140 (.invokevirtual 138) 3 1143 := ⟨by decide +kernel, rfl⟩
theorem eL_1143 : di code 1143 (.aload_n 2) 1 1144 := ⟨by decide +kernel, rfl⟩
theorem eL_1144 : di code 1144 (.aload_n 0) 1 1145 := ⟨by decide +kernel, rfl⟩
theorem eL_1145 : di code 1145 (.iload_n 3) 1 1146 := ⟨by decide +kernel, rfl⟩
theorem eL_1146 : di code 1146 (.iconst 1) 1 1147 := ⟨by decide +kernel, rfl⟩
theorem eL_1147 : di code 1147 (.iadd) 1 1148 := ⟨by decide +kernel, rfl⟩
theorem eL_1148 : di code 1148 (.iaload) 1 1149 := ⟨by decide +kernel, rfl⟩
theorem eL_1149 : di code 1149 (.invokevirtual 141) 3 1152 := ⟨by decide +kernel, rfl⟩
theorem eL_1152 : dj code 1152 (.if_icmp .eq) 1155 1226 := ⟨74, by decide +kernel, rfl, rfl⟩
theorem eL_1155 : di code 1155 (.iconst 0) 1 1156 := ⟨by decide +kernel, rfl⟩
theorem eL_1156 : di code 1156 (.ireturn) 1 1157 := ⟨by decide +kernel, rfl⟩
theorem eL_1157 : di code 1157 (.aload_n 1) 1 1158 := ⟨by decide +kernel, rfl⟩
theorem eL_1158 : di code 1158 (.aload_n 0) 1 1159 := ⟨by decide +kernel, rfl⟩
theorem eL_1159 : di code 1159 (.iload_n 3) 1 1160 := ⟨by decide +kernel, rfl⟩
theorem eL_1160 : di code 1160 (.iconst 1) 1 1161 := ⟨by decide +kernel, rfl⟩
theorem eL_1161 : di code 1161 (.iadd) 1 1162 := ⟨by decide +kernel, rfl⟩
theorem eL_1162 : di code 1162 (.iaload) 1 1163 := ⟨by decide +kernel, rfl⟩
theorem eL_1163 : di code 1163 (.invokevirtual 142) 3 1166 := ⟨by decide +kernel, rfl⟩
theorem eL_1166 : di code 1166 (.aload_n 2) 1 1167 := ⟨by decide +kernel, rfl⟩
theorem eL_1167 : di code 1167 (.aload_n 0) 1 1168 := ⟨by decide +kernel, rfl⟩
theorem eL_1168 : di code 1168 (.iload_n 3) 1 1169 := ⟨by decide +kernel, rfl⟩
theorem eL_1169 : di code 1169 (.iconst 1) 1 1170 := ⟨by decide +kernel, rfl⟩
theorem eL_1170 : di code 1170 (.iadd) 1 1171 := ⟨by decide +kernel, rfl⟩
theorem eL_1171 : di code 1171 (.iaload) 1 1172 := ⟨by decide +kernel, rfl⟩
theorem eL_1172 : di code 1172 (.invokevirtual 145) 3 1175 := ⟨by decide +kernel, rfl⟩
theorem eL_1175 : dj code 1175 (.if_icmp .eq) 1178 1226 := ⟨51, by decide +kernel, rfl, rfl⟩
theorem eL_1178 : di code 1178 (.iconst 0) 1 1179 := ⟨by decide +kernel, rfl⟩
theorem eL_1179 : di code 1179 (.ireturn) 1 1180 := ⟨by decide +kernel, rfl⟩
theorem eL_1180 : di code 1180 (.aload_n 1) 1 1181 := ⟨by decide +kernel, rfl⟩
theorem eL_1181 : di code 1181 (.aload_n 0) 1 1182 := ⟨by decide +kernel, rfl⟩
theorem eL_1182 : di code 1182 (.iload_n 3) 1 1183 := ⟨by decide +kernel, rfl⟩
theorem eL_1183 : di code 1183 (.iconst 1) 1 1184 := ⟨by decide +kernel, rfl⟩
theorem eL_1184 : di code 1184 (.iadd) 1 1185 := ⟨by decide +kernel, rfl⟩
theorem eL_1185 : di code 1185 (.iaload) 1 1186 := ⟨by decide +kernel, rfl⟩
theorem eL_1186 : di code 1186 (.invokevirtual 146) 3 1189 := ⟨by decide +kernel, rfl⟩
theorem eL_1189 : di code 1189 (.aload_n 2) 1 1190 := ⟨by decide +kernel, rfl⟩
theorem eL_1190 : di code 1190 (.aload_n 0) 1 1191 := ⟨by decide +kernel, rfl⟩
theorem eL_1191 : di code 1191 (.iload_n 3) 1 1192 := ⟨by decide +kernel, rfl⟩
theorem eL_1192 : di code 1192 (.iconst 1) 1 1193 := ⟨by decide +kernel, rfl⟩
theorem eL_1193 : di code 1193 (.iadd) 1 1194 := ⟨by decide +kernel, rfl⟩
theorem eL_1194 : di code 1194 (.iaload) 1 1195 := ⟨by decide +kernel, rfl⟩
theorem eL_1195 : di code 1195 (.invokevirtual 149) 3 1198 := ⟨by decide +kernel, rfl⟩
theorem eL_1198 : dj code 1198 (.if_icmp .eq) 1201 1226 := ⟨28, by decide +kernel, rfl, rfl⟩
theorem eL_1201 : di code 1201 (.iconst 0) 1 1202 := ⟨by decide +kernel, rfl⟩
theorem eL_1202 : di code 1202 (.ireturn) 1 1203 := ⟨by decide +kernel, rfl⟩
theorem eL_1203 : di code 1203 (.aload_n 1) 1 1204 := ⟨by decide +kernel, rfl⟩
theorem eL_1204 : di code 1204 (.aload_n 0) 1 1205 := ⟨by decide +kernel, rfl⟩
theorem eL_1205 : di code 1205 (.iload_n 3) 1 1206 := ⟨by decide +kernel, rfl⟩
theorem eL_1206 : di code 1206 (.iconst 1) 1 1207 := ⟨by decide +kernel, rfl⟩
theorem eL_1207 : di code 1207 (.iadd) 1 1208 := ⟨by decide +kernel, rfl⟩
theorem eL_1208 : di code 1208 (.iaload) 1 1209 := ⟨by decide +kernel, rfl⟩
theorem eL_1209 : di code 1209 (.invokevirtual 150) 3 1212 := ⟨by decide +kernel, rfl⟩
theorem eL_1212 : di code 1212 (.aload_n 2) 1 1213 := ⟨by decide +kernel, rfl⟩
theorem eL_1213 : di code 1213 (.aload_n 0) 1 1214 := ⟨by decide +kernel, rfl⟩
theorem eL_1214 : di code 1214 (.iload_n 3) 1 1215 := ⟨by decide +kernel, rfl⟩
theorem eL_1215 : di code 1215 (.iconst 1) 1 1216 := ⟨by decide +kernel, rfl⟩
theorem eL_1216 : di code 1216 (.iadd) 1 1217 := ⟨by decide +kernel, rfl⟩
theorem eL_1217 : di code 1217 (.iaload) 1 1218 := ⟨by decide +kernel, rfl⟩
theorem eL_1218 : di code 1218 (.invokevirtual 153) 3 1221 := ⟨by decide +kernel, rfl⟩
theorem eL_1221 : dj code 1221 (.if_icmp .eq) 1224 1226 := ⟨5, by decide +kernel, rfl, rfl⟩
theorem eL_1224 : di code 1224 (.iconst 0) 1 1225 := ⟨by decide +kernel, rfl⟩
theorem eL_1225 : di code 1225 (.ireturn) 1 1226 := ⟨by decide +kernel, rfl⟩
theorem eL_1226 : di code 1226 (.iinc 3 5) 3 1229 := ⟨by decide +kernel, rfl⟩
theorem eL_1229 : dj code 1229 .goto 1232 18 := ⟨-1211, by decide +kernel, rfl, rfl⟩
theorem eL_1232 : di code 1232 (.iconst 1) 1 1233 := ⟨by decide +kernel, rfl⟩
theorem eL_1233 : di code 1233 (.ireturn) 1 1234 := ⟨by decide +kernel, rfl⟩
set_option maxRecDepth 100000 in
theorem law_case_0 {l : Launch} {g : Cx} {b L : Nat} {xs : Nat → Int32} {cells slots i : Nat} {M M1 M2 : Mem} {r : Int32} (hcs : cells ≤ 600000 ∧ slots ≤ 7302250) (hin : ∀ j : Int32, 0 < j.toInt → j.toInt < 5 → vp_in (nI i + j) L) (h1 : f_X10_element (xs (nI i + 1).toNatClampNeg) M = some (r, M1)) (h2 : f_X11_element (xs (nI i + 1).toNatClampNeg) M1 = some (r, M2)) (hK : LT l g b L xs cells slots 1226 [some (.ref b), some (.ref (g.1 0)), some (.ref (g.1 11)), some (.int (nI i))] [] M2) : LT l g b L xs cells slots 184 [some (.ref b), some (.ref (g.1 0)), some (.ref (g.1 11)), some (.int (nI i))] [] M := by
  refine L_aload_n eL_184 rfl ?_
  refine L_aload_n eL_185 rfl ?_
  refine L_iload_n eL_186 rfl ?_
  refine L_iconst (v := 1) eL_187 (by decide) ?_
  refine L_iadd eL_188 ?_
  refine L_sld eL_189 (hin 1 (by decide) (by decide)) ?_
  refine L_call (as := [.int (xs (nI i + 1).toNatClampNeg)]) (rest := []) (q := 0) eL_190 mlL_13 mb_X10_element mi_X10_element ob0 rfl rfl ⟨by decide, by decide⟩ (Nat.le_of_ble_eq_true rfl) ⟨hcs.1, hcs.2⟩ (ok_X10_element h1) ?_
  refine L_aload_n eL_193 rfl ?_
  refine L_aload_n eL_194 rfl ?_
  refine L_iload_n eL_195 rfl ?_
  refine L_iconst (v := 1) eL_196 (by decide) ?_
  refine L_iadd eL_197 ?_
  refine L_sld eL_198 (hin 1 (by decide) (by decide)) ?_
  refine L_call (as := [.int (xs (nI i + 1).toNatClampNeg)]) (rest := [.int r]) (q := 11) eL_199 mlL_17 mb_X11_element mi_X11_element ob11 rfl rfl ⟨by decide, by decide⟩ (Nat.le_of_ble_eq_true rfl) ⟨hcs.1, hcs.2⟩ (ok_X11_element h2) ?_
  exact L_icmp_eq eL_202 hK
set_option maxRecDepth 100000 in
theorem law_case_1 {l : Launch} {g : Cx} {b L : Nat} {xs : Nat → Int32} {cells slots i : Nat} {M M1 M2 : Mem} {r : Int32} (hcs : cells ≤ 600000 ∧ slots ≤ 7302250) (hin : ∀ j : Int32, 0 < j.toInt → j.toInt < 5 → vp_in (nI i + j) L) (h1 : f_X10_as (xs (nI i + 1).toNatClampNeg) (xs (nI i + 2).toNatClampNeg) M = some (r, M1)) (h2 : f_X11_as (xs (nI i + 1).toNatClampNeg) (xs (nI i + 2).toNatClampNeg) M1 = some (r, M2)) (hK : LT l g b L xs cells slots 1226 [some (.ref b), some (.ref (g.1 0)), some (.ref (g.1 11)), some (.int (nI i))] [] M2) : LT l g b L xs cells slots 207 [some (.ref b), some (.ref (g.1 0)), some (.ref (g.1 11)), some (.int (nI i))] [] M := by
  refine L_aload_n eL_207 rfl ?_
  refine L_aload_n eL_208 rfl ?_
  refine L_iload_n eL_209 rfl ?_
  refine L_iconst (v := 1) eL_210 (by decide) ?_
  refine L_iadd eL_211 ?_
  refine L_sld eL_212 (hin 1 (by decide) (by decide)) ?_
  refine L_aload_n eL_213 rfl ?_
  refine L_iload_n eL_214 rfl ?_
  refine L_iconst (v := 2) eL_215 (by decide) ?_
  refine L_iadd eL_216 ?_
  refine L_sld eL_217 (hin 2 (by decide) (by decide)) ?_
  refine L_call (as := [.int (xs (nI i + 1).toNatClampNeg), .int (xs (nI i + 2).toNatClampNeg)]) (rest := []) (q := 0) eL_218 mlL_18 mb_X10_as mi_X10_as ob0 rfl rfl ⟨by decide, by decide⟩ (Nat.le_of_ble_eq_true rfl) ⟨hcs.1, hcs.2⟩ (ok_X10_as h1) ?_
  refine L_aload_n eL_221 rfl ?_
  refine L_aload_n eL_222 rfl ?_
  refine L_iload_n eL_223 rfl ?_
  refine L_iconst (v := 1) eL_224 (by decide) ?_
  refine L_iadd eL_225 ?_
  refine L_sld eL_226 (hin 1 (by decide) (by decide)) ?_
  refine L_aload_n eL_227 rfl ?_
  refine L_iload_n eL_228 rfl ?_
  refine L_iconst (v := 2) eL_229 (by decide) ?_
  refine L_iadd eL_230 ?_
  refine L_sld eL_231 (hin 2 (by decide) (by decide)) ?_
  refine L_call (as := [.int (xs (nI i + 1).toNatClampNeg), .int (xs (nI i + 2).toNatClampNeg)]) (rest := [.int r]) (q := 11) eL_232 mlL_22 mb_X11_as mi_X11_as ob11 rfl rfl ⟨by decide, by decide⟩ (Nat.le_of_ble_eq_true rfl) ⟨hcs.1, hcs.2⟩ (ok_X11_as h2) ?_
  exact L_icmp_eq eL_235 hK
set_option maxRecDepth 100000 in
theorem law_case_2 {l : Launch} {g : Cx} {b L : Nat} {xs : Nat → Int32} {cells slots i : Nat} {M M1 M2 : Mem} {r : Int32} (hcs : cells ≤ 600000 ∧ slots ≤ 7302250) (hin : ∀ j : Int32, 0 < j.toInt → j.toInt < 5 → vp_in (nI i + j) L) (h1 : f_X10_allow (xs (nI i + 1).toNatClampNeg) (xs (nI i + 2).toNatClampNeg) M = some (r, M1)) (h2 : f_X11_allow (xs (nI i + 1).toNatClampNeg) (xs (nI i + 2).toNatClampNeg) M1 = some (r, M2)) (hK : LT l g b L xs cells slots 1226 [some (.ref b), some (.ref (g.1 0)), some (.ref (g.1 11)), some (.int (nI i))] [] M2) : LT l g b L xs cells slots 240 [some (.ref b), some (.ref (g.1 0)), some (.ref (g.1 11)), some (.int (nI i))] [] M := by
  refine L_aload_n eL_240 rfl ?_
  refine L_aload_n eL_241 rfl ?_
  refine L_iload_n eL_242 rfl ?_
  refine L_iconst (v := 1) eL_243 (by decide) ?_
  refine L_iadd eL_244 ?_
  refine L_sld eL_245 (hin 1 (by decide) (by decide)) ?_
  refine L_aload_n eL_246 rfl ?_
  refine L_iload_n eL_247 rfl ?_
  refine L_iconst (v := 2) eL_248 (by decide) ?_
  refine L_iadd eL_249 ?_
  refine L_sld eL_250 (hin 2 (by decide) (by decide)) ?_
  refine L_call (as := [.int (xs (nI i + 1).toNatClampNeg), .int (xs (nI i + 2).toNatClampNeg)]) (rest := []) (q := 0) eL_251 mlL_23 mb_X10_allow mi_X10_allow ob0 rfl rfl ⟨by decide, by decide⟩ (Nat.le_of_ble_eq_true rfl) ⟨hcs.1, hcs.2⟩ (ok_X10_allow h1) ?_
  refine L_aload_n eL_254 rfl ?_
  refine L_aload_n eL_255 rfl ?_
  refine L_iload_n eL_256 rfl ?_
  refine L_iconst (v := 1) eL_257 (by decide) ?_
  refine L_iadd eL_258 ?_
  refine L_sld eL_259 (hin 1 (by decide) (by decide)) ?_
  refine L_aload_n eL_260 rfl ?_
  refine L_iload_n eL_261 rfl ?_
  refine L_iconst (v := 2) eL_262 (by decide) ?_
  refine L_iadd eL_263 ?_
  refine L_sld eL_264 (hin 2 (by decide) (by decide)) ?_
  refine L_call (as := [.int (xs (nI i + 1).toNatClampNeg), .int (xs (nI i + 2).toNatClampNeg)]) (rest := [.int r]) (q := 11) eL_265 mlL_26 mb_X11_allow mi_X11_allow ob11 rfl rfl ⟨by decide, by decide⟩ (Nat.le_of_ble_eq_true rfl) ⟨hcs.1, hcs.2⟩ (ok_X11_allow h2) ?_
  exact L_icmp_eq eL_268 hK
set_option maxRecDepth 100000 in
theorem law_case_3 {l : Launch} {g : Cx} {b L : Nat} {xs : Nat → Int32} {cells slots i : Nat} {M M1 M2 : Mem} {r : Int32} (hcs : cells ≤ 600000 ∧ slots ≤ 7302250) (hin : ∀ j : Int32, 0 < j.toInt → j.toInt < 5 → vp_in (nI i + j) L) (h1 : f_X10_film (xs (nI i + 1).toNatClampNeg) (xs (nI i + 2).toNatClampNeg) (xs (nI i + 3).toNatClampNeg) M = some (r, M1)) (h2 : f_X11_film (xs (nI i + 1).toNatClampNeg) (xs (nI i + 2).toNatClampNeg) (xs (nI i + 3).toNatClampNeg) M1 = some (r, M2)) (hK : LT l g b L xs cells slots 1226 [some (.ref b), some (.ref (g.1 0)), some (.ref (g.1 11)), some (.int (nI i))] [] M2) : LT l g b L xs cells slots 273 [some (.ref b), some (.ref (g.1 0)), some (.ref (g.1 11)), some (.int (nI i))] [] M := by
  refine L_aload_n eL_273 rfl ?_
  refine L_aload_n eL_274 rfl ?_
  refine L_iload_n eL_275 rfl ?_
  refine L_iconst (v := 1) eL_276 (by decide) ?_
  refine L_iadd eL_277 ?_
  refine L_sld eL_278 (hin 1 (by decide) (by decide)) ?_
  refine L_aload_n eL_279 rfl ?_
  refine L_iload_n eL_280 rfl ?_
  refine L_iconst (v := 2) eL_281 (by decide) ?_
  refine L_iadd eL_282 ?_
  refine L_sld eL_283 (hin 2 (by decide) (by decide)) ?_
  refine L_aload_n eL_284 rfl ?_
  refine L_iload_n eL_285 rfl ?_
  refine L_iconst (v := 3) eL_286 (by decide) ?_
  refine L_iadd eL_287 ?_
  refine L_sld eL_288 (hin 3 (by decide) (by decide)) ?_
  refine L_call (as := [.int (xs (nI i + 1).toNatClampNeg), .int (xs (nI i + 2).toNatClampNeg), .int (xs (nI i + 3).toNatClampNeg)]) (rest := []) (q := 0) eL_289 mlL_27 mb_X10_film mi_X10_film ob0 rfl rfl ⟨by decide, by decide⟩ (Nat.le_of_ble_eq_true rfl) ⟨hcs.1, hcs.2⟩ (ok_X10_film h1) ?_
  refine L_aload_n eL_292 rfl ?_
  refine L_aload_n eL_293 rfl ?_
  refine L_iload_n eL_294 rfl ?_
  refine L_iconst (v := 1) eL_295 (by decide) ?_
  refine L_iadd eL_296 ?_
  refine L_sld eL_297 (hin 1 (by decide) (by decide)) ?_
  refine L_aload_n eL_298 rfl ?_
  refine L_iload_n eL_299 rfl ?_
  refine L_iconst (v := 2) eL_300 (by decide) ?_
  refine L_iadd eL_301 ?_
  refine L_sld eL_302 (hin 2 (by decide) (by decide)) ?_
  refine L_aload_n eL_303 rfl ?_
  refine L_iload_n eL_304 rfl ?_
  refine L_iconst (v := 3) eL_305 (by decide) ?_
  refine L_iadd eL_306 ?_
  refine L_sld eL_307 (hin 3 (by decide) (by decide)) ?_
  refine L_call (as := [.int (xs (nI i + 1).toNatClampNeg), .int (xs (nI i + 2).toNatClampNeg), .int (xs (nI i + 3).toNatClampNeg)]) (rest := [.int r]) (q := 11) eL_308 mlL_31 mb_X11_film mi_X11_film ob11 rfl rfl ⟨by decide, by decide⟩ (Nat.le_of_ble_eq_true rfl) ⟨hcs.1, hcs.2⟩ (ok_X11_film h2) ?_
  exact L_icmp_eq eL_311 hK
set_option maxRecDepth 100000 in
theorem law_case_4 {l : Launch} {g : Cx} {b L : Nat} {xs : Nat → Int32} {cells slots i : Nat} {M M1 M2 : Mem} {r : Int32} (hcs : cells ≤ 600000 ∧ slots ≤ 7302250) (hin : ∀ j : Int32, 0 < j.toInt → j.toInt < 5 → vp_in (nI i + j) L) (h1 : f_X10_habit (xs (nI i + 1).toNatClampNeg) M = some (r, M1)) (h2 : f_X11_habit (xs (nI i + 1).toNatClampNeg) M1 = some (r, M2)) (hK : LT l g b L xs cells slots 1226 [some (.ref b), some (.ref (g.1 0)), some (.ref (g.1 11)), some (.int (nI i))] [] M2) : LT l g b L xs cells slots 316 [some (.ref b), some (.ref (g.1 0)), some (.ref (g.1 11)), some (.int (nI i))] [] M := by
  refine L_aload_n eL_316 rfl ?_
  refine L_aload_n eL_317 rfl ?_
  refine L_iload_n eL_318 rfl ?_
  refine L_iconst (v := 1) eL_319 (by decide) ?_
  refine L_iadd eL_320 ?_
  refine L_sld eL_321 (hin 1 (by decide) (by decide)) ?_
  refine L_call (as := [.int (xs (nI i + 1).toNatClampNeg)]) (rest := []) (q := 0) eL_322 mlL_32 mb_X10_habit mi_X10_habit ob0 rfl rfl ⟨by decide, by decide⟩ (Nat.le_of_ble_eq_true rfl) ⟨hcs.1, hcs.2⟩ (ok_X10_habit h1) ?_
  refine L_aload_n eL_325 rfl ?_
  refine L_aload_n eL_326 rfl ?_
  refine L_iload_n eL_327 rfl ?_
  refine L_iconst (v := 1) eL_328 (by decide) ?_
  refine L_iadd eL_329 ?_
  refine L_sld eL_330 (hin 1 (by decide) (by decide)) ?_
  refine L_call (as := [.int (xs (nI i + 1).toNatClampNeg)]) (rest := [.int r]) (q := 11) eL_331 mlL_35 mb_X11_habit mi_X11_habit ob11 rfl rfl ⟨by decide, by decide⟩ (Nat.le_of_ble_eq_true rfl) ⟨hcs.1, hcs.2⟩ (ok_X11_habit h2) ?_
  exact L_icmp_eq eL_334 hK
set_option maxRecDepth 100000 in
theorem law_case_5 {l : Launch} {g : Cx} {b L : Nat} {xs : Nat → Int32} {cells slots i : Nat} {M M1 M2 : Mem} {r : Int32} (hcs : cells ≤ 600000 ∧ slots ≤ 7302250) (hin : ∀ j : Int32, 0 < j.toInt → j.toInt < 5 → vp_in (nI i + j) L) (h1 : f_X10_cycle (xs (nI i + 1).toNatClampNeg) (xs (nI i + 2).toNatClampNeg) (xs (nI i + 3).toNatClampNeg) (xs (nI i + 4).toNatClampNeg) M = some (r, M1)) (h2 : f_X11_cycle (xs (nI i + 1).toNatClampNeg) (xs (nI i + 2).toNatClampNeg) (xs (nI i + 3).toNatClampNeg) (xs (nI i + 4).toNatClampNeg) M1 = some (r, M2)) (hK : LT l g b L xs cells slots 1226 [some (.ref b), some (.ref (g.1 0)), some (.ref (g.1 11)), some (.int (nI i))] [] M2) : LT l g b L xs cells slots 339 [some (.ref b), some (.ref (g.1 0)), some (.ref (g.1 11)), some (.int (nI i))] [] M := by
  refine L_aload_n eL_339 rfl ?_
  refine L_aload_n eL_340 rfl ?_
  refine L_iload_n eL_341 rfl ?_
  refine L_iconst (v := 1) eL_342 (by decide) ?_
  refine L_iadd eL_343 ?_
  refine L_sld eL_344 (hin 1 (by decide) (by decide)) ?_
  refine L_aload_n eL_345 rfl ?_
  refine L_iload_n eL_346 rfl ?_
  refine L_iconst (v := 2) eL_347 (by decide) ?_
  refine L_iadd eL_348 ?_
  refine L_sld eL_349 (hin 2 (by decide) (by decide)) ?_
  refine L_aload_n eL_350 rfl ?_
  refine L_iload_n eL_351 rfl ?_
  refine L_iconst (v := 3) eL_352 (by decide) ?_
  refine L_iadd eL_353 ?_
  refine L_sld eL_354 (hin 3 (by decide) (by decide)) ?_
  refine L_aload_n eL_355 rfl ?_
  refine L_iload_n eL_356 rfl ?_
  refine L_iconst (v := 4) eL_357 (by decide) ?_
  refine L_iadd eL_358 ?_
  refine L_sld eL_359 (hin 4 (by decide) (by decide)) ?_
  refine L_call (as := [.int (xs (nI i + 1).toNatClampNeg), .int (xs (nI i + 2).toNatClampNeg), .int (xs (nI i + 3).toNatClampNeg), .int (xs (nI i + 4).toNatClampNeg)]) (rest := []) (q := 0) eL_360 mlL_36 mb_X10_cycle mi_X10_cycle ob0 rfl rfl ⟨by decide, by decide⟩ (Nat.le_of_ble_eq_true rfl) ⟨hcs.1, hcs.2⟩ (ok_X10_cycle h1) ?_
  refine L_aload_n eL_363 rfl ?_
  refine L_aload_n eL_364 rfl ?_
  refine L_iload_n eL_365 rfl ?_
  refine L_iconst (v := 1) eL_366 (by decide) ?_
  refine L_iadd eL_367 ?_
  refine L_sld eL_368 (hin 1 (by decide) (by decide)) ?_
  refine L_aload_n eL_369 rfl ?_
  refine L_iload_n eL_370 rfl ?_
  refine L_iconst (v := 2) eL_371 (by decide) ?_
  refine L_iadd eL_372 ?_
  refine L_sld eL_373 (hin 2 (by decide) (by decide)) ?_
  refine L_aload_n eL_374 rfl ?_
  refine L_iload_n eL_375 rfl ?_
  refine L_iconst (v := 3) eL_376 (by decide) ?_
  refine L_iadd eL_377 ?_
  refine L_sld eL_378 (hin 3 (by decide) (by decide)) ?_
  refine L_aload_n eL_379 rfl ?_
  refine L_iload_n eL_380 rfl ?_
  refine L_iconst (v := 4) eL_381 (by decide) ?_
  refine L_iadd eL_382 ?_
  refine L_sld eL_383 (hin 4 (by decide) (by decide)) ?_
  refine L_call (as := [.int (xs (nI i + 1).toNatClampNeg), .int (xs (nI i + 2).toNatClampNeg), .int (xs (nI i + 3).toNatClampNeg), .int (xs (nI i + 4).toNatClampNeg)]) (rest := [.int r]) (q := 11) eL_384 mlL_40 mb_X11_cycle mi_X11_cycle ob11 rfl rfl ⟨by decide, by decide⟩ (Nat.le_of_ble_eq_true rfl) ⟨hcs.1, hcs.2⟩ (ok_X11_cycle h2) ?_
  exact L_icmp_eq eL_387 hK
set_option maxRecDepth 100000 in
theorem law_case_6 {l : Launch} {g : Cx} {b L : Nat} {xs : Nat → Int32} {cells slots i : Nat} {M M1 M2 : Mem} {r : Int32} (hcs : cells ≤ 600000 ∧ slots ≤ 7302250) (hin : ∀ j : Int32, 0 < j.toInt → j.toInt < 5 → vp_in (nI i + j) L) (h1 : f_X10_normal (xs (nI i + 1).toNatClampNeg) M = some (r, M1)) (h2 : f_X11_normal (xs (nI i + 1).toNatClampNeg) M1 = some (r, M2)) (hK : LT l g b L xs cells slots 1226 [some (.ref b), some (.ref (g.1 0)), some (.ref (g.1 11)), some (.int (nI i))] [] M2) : LT l g b L xs cells slots 392 [some (.ref b), some (.ref (g.1 0)), some (.ref (g.1 11)), some (.int (nI i))] [] M := by
  refine L_aload_n eL_392 rfl ?_
  refine L_aload_n eL_393 rfl ?_
  refine L_iload_n eL_394 rfl ?_
  refine L_iconst (v := 1) eL_395 (by decide) ?_
  refine L_iadd eL_396 ?_
  refine L_sld eL_397 (hin 1 (by decide) (by decide)) ?_
  refine L_call (as := [.int (xs (nI i + 1).toNatClampNeg)]) (rest := []) (q := 0) eL_398 mlL_41 mb_X10_normal mi_X10_normal ob0 rfl rfl ⟨by decide, by decide⟩ (Nat.le_of_ble_eq_true rfl) ⟨hcs.1, hcs.2⟩ (ok_X10_normal h1) ?_
  refine L_aload_n eL_401 rfl ?_
  refine L_aload_n eL_402 rfl ?_
  refine L_iload_n eL_403 rfl ?_
  refine L_iconst (v := 1) eL_404 (by decide) ?_
  refine L_iadd eL_405 ?_
  refine L_sld eL_406 (hin 1 (by decide) (by decide)) ?_
  refine L_call (as := [.int (xs (nI i + 1).toNatClampNeg)]) (rest := [.int r]) (q := 11) eL_407 mlL_44 mb_X11_normal mi_X11_normal ob11 rfl rfl ⟨by decide, by decide⟩ (Nat.le_of_ble_eq_true rfl) ⟨hcs.1, hcs.2⟩ (ok_X11_normal h2) ?_
  exact L_icmp_eq eL_410 hK
set_option maxRecDepth 100000 in
theorem law_case_7 {l : Launch} {g : Cx} {b L : Nat} {xs : Nat → Int32} {cells slots i : Nat} {M M1 M2 : Mem} {r : Int32} (hcs : cells ≤ 600000 ∧ slots ≤ 7302250) (hin : ∀ j : Int32, 0 < j.toInt → j.toInt < 5 → vp_in (nI i + j) L) (h1 : f_X10_of (xs (nI i + 1).toNatClampNeg) (xs (nI i + 2).toNatClampNeg) M = some (r, M1)) (h2 : f_X11_of (xs (nI i + 1).toNatClampNeg) (xs (nI i + 2).toNatClampNeg) M1 = some (r, M2)) (hK : LT l g b L xs cells slots 1226 [some (.ref b), some (.ref (g.1 0)), some (.ref (g.1 11)), some (.int (nI i))] [] M2) : LT l g b L xs cells slots 415 [some (.ref b), some (.ref (g.1 0)), some (.ref (g.1 11)), some (.int (nI i))] [] M := by
  refine L_aload_n eL_415 rfl ?_
  refine L_aload_n eL_416 rfl ?_
  refine L_iload_n eL_417 rfl ?_
  refine L_iconst (v := 1) eL_418 (by decide) ?_
  refine L_iadd eL_419 ?_
  refine L_sld eL_420 (hin 1 (by decide) (by decide)) ?_
  refine L_aload_n eL_421 rfl ?_
  refine L_iload_n eL_422 rfl ?_
  refine L_iconst (v := 2) eL_423 (by decide) ?_
  refine L_iadd eL_424 ?_
  refine L_sld eL_425 (hin 2 (by decide) (by decide)) ?_
  refine L_call (as := [.int (xs (nI i + 1).toNatClampNeg), .int (xs (nI i + 2).toNatClampNeg)]) (rest := []) (q := 0) eL_426 mlL_45 mb_X10_of mi_X10_of ob0 rfl rfl ⟨by decide, by decide⟩ (Nat.le_of_ble_eq_true rfl) ⟨hcs.1, hcs.2⟩ (ok_X10_of h1) ?_
  refine L_aload_n eL_429 rfl ?_
  refine L_aload_n eL_430 rfl ?_
  refine L_iload_n eL_431 rfl ?_
  refine L_iconst (v := 1) eL_432 (by decide) ?_
  refine L_iadd eL_433 ?_
  refine L_sld eL_434 (hin 1 (by decide) (by decide)) ?_
  refine L_aload_n eL_435 rfl ?_
  refine L_iload_n eL_436 rfl ?_
  refine L_iconst (v := 2) eL_437 (by decide) ?_
  refine L_iadd eL_438 ?_
  refine L_sld eL_439 (hin 2 (by decide) (by decide)) ?_
  refine L_call (as := [.int (xs (nI i + 1).toNatClampNeg), .int (xs (nI i + 2).toNatClampNeg)]) (rest := [.int r]) (q := 11) eL_440 mlL_48 mb_X11_of mi_X11_of ob11 rfl rfl ⟨by decide, by decide⟩ (Nat.le_of_ble_eq_true rfl) ⟨hcs.1, hcs.2⟩ (ok_X11_of h2) ?_
  exact L_icmp_eq eL_443 hK
set_option maxRecDepth 100000 in
theorem law_case_8 {l : Launch} {g : Cx} {b L : Nat} {xs : Nat → Int32} {cells slots i : Nat} {M M1 M2 : Mem} {r : Int32} (hcs : cells ≤ 600000 ∧ slots ≤ 7302250) (hin : ∀ j : Int32, 0 < j.toInt → j.toInt < 5 → vp_in (nI i + j) L) (h1 : f_X10_job  M = some (r, M1)) (h2 : f_X11_job  M1 = some (r, M2)) (hK : LT l g b L xs cells slots 1226 [some (.ref b), some (.ref (g.1 0)), some (.ref (g.1 11)), some (.int (nI i))] [] M2) : LT l g b L xs cells slots 448 [some (.ref b), some (.ref (g.1 0)), some (.ref (g.1 11)), some (.int (nI i))] [] M := by
  refine L_aload_n eL_448 rfl ?_
  refine L_call (as := []) (rest := []) (q := 0) eL_449 mlL_49 mb_X10_job mi_X10_job ob0 rfl rfl ⟨by decide, by decide⟩ (Nat.le_of_ble_eq_true rfl) ⟨hcs.1, hcs.2⟩ (ok_X10_job h1) ?_
  refine L_aload_n eL_452 rfl ?_
  refine L_call (as := []) (rest := [.int r]) (q := 11) eL_453 mlL_53 mb_X11_job mi_X11_job ob11 rfl rfl ⟨by decide, by decide⟩ (Nat.le_of_ble_eq_true rfl) ⟨hcs.1, hcs.2⟩ (ok_X11_job h2) ?_
  exact L_icmp_eq eL_456 hK
set_option maxRecDepth 100000 in
theorem law_case_9 {l : Launch} {g : Cx} {b L : Nat} {xs : Nat → Int32} {cells slots i : Nat} {M M1 M2 : Mem} {r : Int32} (hcs : cells ≤ 600000 ∧ slots ≤ 7302250) (hin : ∀ j : Int32, 0 < j.toInt → j.toInt < 5 → vp_in (nI i + j) L) (h1 : f_X10_part (xs (nI i + 1).toNatClampNeg) (xs (nI i + 2).toNatClampNeg) (xs (nI i + 3).toNatClampNeg) M = some (r, M1)) (h2 : f_X11_part (xs (nI i + 1).toNatClampNeg) (xs (nI i + 2).toNatClampNeg) (xs (nI i + 3).toNatClampNeg) M1 = some (r, M2)) (hK : LT l g b L xs cells slots 1226 [some (.ref b), some (.ref (g.1 0)), some (.ref (g.1 11)), some (.int (nI i))] [] M2) : LT l g b L xs cells slots 461 [some (.ref b), some (.ref (g.1 0)), some (.ref (g.1 11)), some (.int (nI i))] [] M := by
  refine L_aload_n eL_461 rfl ?_
  refine L_aload_n eL_462 rfl ?_
  refine L_iload_n eL_463 rfl ?_
  refine L_iconst (v := 1) eL_464 (by decide) ?_
  refine L_iadd eL_465 ?_
  refine L_sld eL_466 (hin 1 (by decide) (by decide)) ?_
  refine L_aload_n eL_467 rfl ?_
  refine L_iload_n eL_468 rfl ?_
  refine L_iconst (v := 2) eL_469 (by decide) ?_
  refine L_iadd eL_470 ?_
  refine L_sld eL_471 (hin 2 (by decide) (by decide)) ?_
  refine L_aload_n eL_472 rfl ?_
  refine L_iload_n eL_473 rfl ?_
  refine L_iconst (v := 3) eL_474 (by decide) ?_
  refine L_iadd eL_475 ?_
  refine L_sld eL_476 (hin 3 (by decide) (by decide)) ?_
  refine L_call (as := [.int (xs (nI i + 1).toNatClampNeg), .int (xs (nI i + 2).toNatClampNeg), .int (xs (nI i + 3).toNatClampNeg)]) (rest := []) (q := 0) eL_477 mlL_54 mb_X10_part mi_X10_part ob0 rfl rfl ⟨by decide, by decide⟩ (Nat.le_of_ble_eq_true rfl) ⟨hcs.1, hcs.2⟩ (ok_X10_part h1) ?_
  refine L_aload_n eL_480 rfl ?_
  refine L_aload_n eL_481 rfl ?_
  refine L_iload_n eL_482 rfl ?_
  refine L_iconst (v := 1) eL_483 (by decide) ?_
  refine L_iadd eL_484 ?_
  refine L_sld eL_485 (hin 1 (by decide) (by decide)) ?_
  refine L_aload_n eL_486 rfl ?_
  refine L_iload_n eL_487 rfl ?_
  refine L_iconst (v := 2) eL_488 (by decide) ?_
  refine L_iadd eL_489 ?_
  refine L_sld eL_490 (hin 2 (by decide) (by decide)) ?_
  refine L_aload_n eL_491 rfl ?_
  refine L_iload_n eL_492 rfl ?_
  refine L_iconst (v := 3) eL_493 (by decide) ?_
  refine L_iadd eL_494 ?_
  refine L_sld eL_495 (hin 3 (by decide) (by decide)) ?_
  refine L_call (as := [.int (xs (nI i + 1).toNatClampNeg), .int (xs (nI i + 2).toNatClampNeg), .int (xs (nI i + 3).toNatClampNeg)]) (rest := [.int r]) (q := 11) eL_496 mlL_57 mb_X11_part mi_X11_part ob11 rfl rfl ⟨by decide, by decide⟩ (Nat.le_of_ble_eq_true rfl) ⟨hcs.1, hcs.2⟩ (ok_X11_part h2) ?_
  exact L_icmp_eq eL_499 hK
set_option maxRecDepth 100000 in
theorem law_case_10 {l : Launch} {g : Cx} {b L : Nat} {xs : Nat → Int32} {cells slots i : Nat} {M M1 M2 : Mem} {r : Int32} (hcs : cells ≤ 600000 ∧ slots ≤ 7302250) (hin : ∀ j : Int32, 0 < j.toInt → j.toInt < 5 → vp_in (nI i + j) L) (h1 : f_X10_set (xs (nI i + 1).toNatClampNeg) M = some (r, M1)) (h2 : f_X11_set (xs (nI i + 1).toNatClampNeg) M1 = some (r, M2)) (hK : LT l g b L xs cells slots 1226 [some (.ref b), some (.ref (g.1 0)), some (.ref (g.1 11)), some (.int (nI i))] [] M2) : LT l g b L xs cells slots 504 [some (.ref b), some (.ref (g.1 0)), some (.ref (g.1 11)), some (.int (nI i))] [] M := by
  refine L_aload_n eL_504 rfl ?_
  refine L_aload_n eL_505 rfl ?_
  refine L_iload_n eL_506 rfl ?_
  refine L_iconst (v := 1) eL_507 (by decide) ?_
  refine L_iadd eL_508 ?_
  refine L_sld eL_509 (hin 1 (by decide) (by decide)) ?_
  refine L_call (as := [.int (xs (nI i + 1).toNatClampNeg)]) (rest := []) (q := 0) eL_510 mlL_58 mb_X10_set mi_X10_set ob0 rfl rfl ⟨by decide, by decide⟩ (Nat.le_of_ble_eq_true rfl) ⟨hcs.1, hcs.2⟩ (ok_X10_set h1) ?_
  refine L_aload_n eL_513 rfl ?_
  refine L_aload_n eL_514 rfl ?_
  refine L_iload_n eL_515 rfl ?_
  refine L_iconst (v := 1) eL_516 (by decide) ?_
  refine L_iadd eL_517 ?_
  refine L_sld eL_518 (hin 1 (by decide) (by decide)) ?_
  refine L_call (as := [.int (xs (nI i + 1).toNatClampNeg)]) (rest := [.int r]) (q := 11) eL_519 mlL_61 mb_X11_set mi_X11_set ob11 rfl rfl ⟨by decide, by decide⟩ (Nat.le_of_ble_eq_true rfl) ⟨hcs.1, hcs.2⟩ (ok_X11_set h2) ?_
  exact L_icmp_eq eL_522 hK
set_option maxRecDepth 100000 in
theorem law_case_11 {l : Launch} {g : Cx} {b L : Nat} {xs : Nat → Int32} {cells slots i : Nat} {M M1 M2 : Mem} {r : Int32} (hcs : cells ≤ 600000 ∧ slots ≤ 7302250) (hin : ∀ j : Int32, 0 < j.toInt → j.toInt < 5 → vp_in (nI i + j) L) (h1 : f_X10_change (xs (nI i + 1).toNatClampNeg) M = some (r, M1)) (h2 : f_X11_change (xs (nI i + 1).toNatClampNeg) M1 = some (r, M2)) (hK : LT l g b L xs cells slots 1226 [some (.ref b), some (.ref (g.1 0)), some (.ref (g.1 11)), some (.int (nI i))] [] M2) : LT l g b L xs cells slots 527 [some (.ref b), some (.ref (g.1 0)), some (.ref (g.1 11)), some (.int (nI i))] [] M := by
  refine L_aload_n eL_527 rfl ?_
  refine L_aload_n eL_528 rfl ?_
  refine L_iload_n eL_529 rfl ?_
  refine L_iconst (v := 1) eL_530 (by decide) ?_
  refine L_iadd eL_531 ?_
  refine L_sld eL_532 (hin 1 (by decide) (by decide)) ?_
  refine L_call (as := [.int (xs (nI i + 1).toNatClampNeg)]) (rest := []) (q := 0) eL_533 mlL_62 mb_X10_change mi_X10_change ob0 rfl rfl ⟨by decide, by decide⟩ (Nat.le_of_ble_eq_true rfl) ⟨hcs.1, hcs.2⟩ (ok_X10_change h1) ?_
  refine L_aload_n eL_536 rfl ?_
  refine L_aload_n eL_537 rfl ?_
  refine L_iload_n eL_538 rfl ?_
  refine L_iconst (v := 1) eL_539 (by decide) ?_
  refine L_iadd eL_540 ?_
  refine L_sld eL_541 (hin 1 (by decide) (by decide)) ?_
  refine L_call (as := [.int (xs (nI i + 1).toNatClampNeg)]) (rest := [.int r]) (q := 11) eL_542 mlL_65 mb_X11_change mi_X11_change ob11 rfl rfl ⟨by decide, by decide⟩ (Nat.le_of_ble_eq_true rfl) ⟨hcs.1, hcs.2⟩ (ok_X11_change h2) ?_
  exact L_icmp_eq eL_545 hK
set_option maxRecDepth 100000 in
theorem law_case_12 {l : Launch} {g : Cx} {b L : Nat} {xs : Nat → Int32} {cells slots i : Nat} {M M1 M2 : Mem} {r : Int32} (hcs : cells ≤ 600000 ∧ slots ≤ 7302250) (hin : ∀ j : Int32, 0 < j.toInt → j.toInt < 5 → vp_in (nI i + j) L) (h1 : f_X10_move (xs (nI i + 1).toNatClampNeg) M = some (r, M1)) (h2 : f_X11_move (xs (nI i + 1).toNatClampNeg) M1 = some (r, M2)) (hK : LT l g b L xs cells slots 1226 [some (.ref b), some (.ref (g.1 0)), some (.ref (g.1 11)), some (.int (nI i))] [] M2) : LT l g b L xs cells slots 550 [some (.ref b), some (.ref (g.1 0)), some (.ref (g.1 11)), some (.int (nI i))] [] M := by
  refine L_aload_n eL_550 rfl ?_
  refine L_aload_n eL_551 rfl ?_
  refine L_iload_n eL_552 rfl ?_
  refine L_iconst (v := 1) eL_553 (by decide) ?_
  refine L_iadd eL_554 ?_
  refine L_sld eL_555 (hin 1 (by decide) (by decide)) ?_
  refine L_call (as := [.int (xs (nI i + 1).toNatClampNeg)]) (rest := []) (q := 0) eL_556 mlL_66 mb_X10_move mi_X10_move ob0 rfl rfl ⟨by decide, by decide⟩ (Nat.le_of_ble_eq_true rfl) ⟨hcs.1, hcs.2⟩ (ok_X10_move h1) ?_
  refine L_aload_n eL_559 rfl ?_
  refine L_aload_n eL_560 rfl ?_
  refine L_iload_n eL_561 rfl ?_
  refine L_iconst (v := 1) eL_562 (by decide) ?_
  refine L_iadd eL_563 ?_
  refine L_sld eL_564 (hin 1 (by decide) (by decide)) ?_
  refine L_call (as := [.int (xs (nI i + 1).toNatClampNeg)]) (rest := [.int r]) (q := 11) eL_565 mlL_69 mb_X11_move mi_X11_move ob11 rfl rfl ⟨by decide, by decide⟩ (Nat.le_of_ble_eq_true rfl) ⟨hcs.1, hcs.2⟩ (ok_X11_move h2) ?_
  exact L_icmp_eq eL_568 hK
set_option maxRecDepth 100000 in
theorem law_case_13 {l : Launch} {g : Cx} {b L : Nat} {xs : Nat → Int32} {cells slots i : Nat} {M M1 M2 : Mem} {r : Int32} (hcs : cells ≤ 600000 ∧ slots ≤ 7302250) (hin : ∀ j : Int32, 0 < j.toInt → j.toInt < 5 → vp_in (nI i + j) L) (h1 : f_X10_rate (xs (nI i + 1).toNatClampNeg) (xs (nI i + 2).toNatClampNeg) M = some (r, M1)) (h2 : f_X11_rate (xs (nI i + 1).toNatClampNeg) (xs (nI i + 2).toNatClampNeg) M1 = some (r, M2)) (hK : LT l g b L xs cells slots 1226 [some (.ref b), some (.ref (g.1 0)), some (.ref (g.1 11)), some (.int (nI i))] [] M2) : LT l g b L xs cells slots 573 [some (.ref b), some (.ref (g.1 0)), some (.ref (g.1 11)), some (.int (nI i))] [] M := by
  refine L_aload_n eL_573 rfl ?_
  refine L_aload_n eL_574 rfl ?_
  refine L_iload_n eL_575 rfl ?_
  refine L_iconst (v := 1) eL_576 (by decide) ?_
  refine L_iadd eL_577 ?_
  refine L_sld eL_578 (hin 1 (by decide) (by decide)) ?_
  refine L_aload_n eL_579 rfl ?_
  refine L_iload_n eL_580 rfl ?_
  refine L_iconst (v := 2) eL_581 (by decide) ?_
  refine L_iadd eL_582 ?_
  refine L_sld eL_583 (hin 2 (by decide) (by decide)) ?_
  refine L_call (as := [.int (xs (nI i + 1).toNatClampNeg), .int (xs (nI i + 2).toNatClampNeg)]) (rest := []) (q := 0) eL_584 mlL_70 mb_X10_rate mi_X10_rate ob0 rfl rfl ⟨by decide, by decide⟩ (Nat.le_of_ble_eq_true rfl) ⟨hcs.1, hcs.2⟩ (ok_X10_rate h1) ?_
  refine L_aload_n eL_587 rfl ?_
  refine L_aload_n eL_588 rfl ?_
  refine L_iload_n eL_589 rfl ?_
  refine L_iconst (v := 1) eL_590 (by decide) ?_
  refine L_iadd eL_591 ?_
  refine L_sld eL_592 (hin 1 (by decide) (by decide)) ?_
  refine L_aload_n eL_593 rfl ?_
  refine L_iload_n eL_594 rfl ?_
  refine L_iconst (v := 2) eL_595 (by decide) ?_
  refine L_iadd eL_596 ?_
  refine L_sld eL_597 (hin 2 (by decide) (by decide)) ?_
  refine L_call (as := [.int (xs (nI i + 1).toNatClampNeg), .int (xs (nI i + 2).toNatClampNeg)]) (rest := [.int r]) (q := 11) eL_598 mlL_73 mb_X11_rate mi_X11_rate ob11 rfl rfl ⟨by decide, by decide⟩ (Nat.le_of_ble_eq_true rfl) ⟨hcs.1, hcs.2⟩ (ok_X11_rate h2) ?_
  exact L_icmp_eq eL_601 hK
set_option maxRecDepth 100000 in
theorem law_case_14 {l : Launch} {g : Cx} {b L : Nat} {xs : Nat → Int32} {cells slots i : Nat} {M M1 M2 : Mem} {r : Int32} (hcs : cells ≤ 600000 ∧ slots ≤ 7302250) (hin : ∀ j : Int32, 0 < j.toInt → j.toInt < 5 → vp_in (nI i + j) L) (h1 : f_X10_worth (xs (nI i + 1).toNatClampNeg) (xs (nI i + 2).toNatClampNeg) (xs (nI i + 3).toNatClampNeg) M = some (r, M1)) (h2 : f_X11_worth (xs (nI i + 1).toNatClampNeg) (xs (nI i + 2).toNatClampNeg) (xs (nI i + 3).toNatClampNeg) M1 = some (r, M2)) (hK : LT l g b L xs cells slots 1226 [some (.ref b), some (.ref (g.1 0)), some (.ref (g.1 11)), some (.int (nI i))] [] M2) : LT l g b L xs cells slots 606 [some (.ref b), some (.ref (g.1 0)), some (.ref (g.1 11)), some (.int (nI i))] [] M := by
  refine L_aload_n eL_606 rfl ?_
  refine L_aload_n eL_607 rfl ?_
  refine L_iload_n eL_608 rfl ?_
  refine L_iconst (v := 1) eL_609 (by decide) ?_
  refine L_iadd eL_610 ?_
  refine L_sld eL_611 (hin 1 (by decide) (by decide)) ?_
  refine L_aload_n eL_612 rfl ?_
  refine L_iload_n eL_613 rfl ?_
  refine L_iconst (v := 2) eL_614 (by decide) ?_
  refine L_iadd eL_615 ?_
  refine L_sld eL_616 (hin 2 (by decide) (by decide)) ?_
  refine L_aload_n eL_617 rfl ?_
  refine L_iload_n eL_618 rfl ?_
  refine L_iconst (v := 3) eL_619 (by decide) ?_
  refine L_iadd eL_620 ?_
  refine L_sld eL_621 (hin 3 (by decide) (by decide)) ?_
  refine L_call (as := [.int (xs (nI i + 1).toNatClampNeg), .int (xs (nI i + 2).toNatClampNeg), .int (xs (nI i + 3).toNatClampNeg)]) (rest := []) (q := 0) eL_622 mlL_74 mb_X10_worth mi_X10_worth ob0 rfl rfl ⟨by decide, by decide⟩ (Nat.le_of_ble_eq_true rfl) ⟨hcs.1, hcs.2⟩ (ok_X10_worth h1) ?_
  refine L_aload_n eL_625 rfl ?_
  refine L_aload_n eL_626 rfl ?_
  refine L_iload_n eL_627 rfl ?_
  refine L_iconst (v := 1) eL_628 (by decide) ?_
  refine L_iadd eL_629 ?_
  refine L_sld eL_630 (hin 1 (by decide) (by decide)) ?_
  refine L_aload_n eL_631 rfl ?_
  refine L_iload_n eL_632 rfl ?_
  refine L_iconst (v := 2) eL_633 (by decide) ?_
  refine L_iadd eL_634 ?_
  refine L_sld eL_635 (hin 2 (by decide) (by decide)) ?_
  refine L_aload_n eL_636 rfl ?_
  refine L_iload_n eL_637 rfl ?_
  refine L_iconst (v := 3) eL_638 (by decide) ?_
  refine L_iadd eL_639 ?_
  refine L_sld eL_640 (hin 3 (by decide) (by decide)) ?_
  refine L_call (as := [.int (xs (nI i + 1).toNatClampNeg), .int (xs (nI i + 2).toNatClampNeg), .int (xs (nI i + 3).toNatClampNeg)]) (rest := [.int r]) (q := 11) eL_641 mlL_77 mb_X11_worth mi_X11_worth ob11 rfl rfl ⟨by decide, by decide⟩ (Nat.le_of_ble_eq_true rfl) ⟨hcs.1, hcs.2⟩ (ok_X11_worth h2) ?_
  exact L_icmp_eq eL_644 hK
set_option maxRecDepth 100000 in
theorem law_case_15 {l : Launch} {g : Cx} {b L : Nat} {xs : Nat → Int32} {cells slots i : Nat} {M M1 M2 : Mem} {r : Int32} (hcs : cells ≤ 600000 ∧ slots ≤ 7302250) (hin : ∀ j : Int32, 0 < j.toInt → j.toInt < 5 → vp_in (nI i + j) L) (h1 : f_X10_week (xs (nI i + 1).toNatClampNeg) M = some (r, M1)) (h2 : f_X11_week (xs (nI i + 1).toNatClampNeg) M1 = some (r, M2)) (hK : LT l g b L xs cells slots 1226 [some (.ref b), some (.ref (g.1 0)), some (.ref (g.1 11)), some (.int (nI i))] [] M2) : LT l g b L xs cells slots 649 [some (.ref b), some (.ref (g.1 0)), some (.ref (g.1 11)), some (.int (nI i))] [] M := by
  refine L_aload_n eL_649 rfl ?_
  refine L_aload_n eL_650 rfl ?_
  refine L_iload_n eL_651 rfl ?_
  refine L_iconst (v := 1) eL_652 (by decide) ?_
  refine L_iadd eL_653 ?_
  refine L_sld eL_654 (hin 1 (by decide) (by decide)) ?_
  refine L_call (as := [.int (xs (nI i + 1).toNatClampNeg)]) (rest := []) (q := 0) eL_655 mlL_78 mb_X10_week mi_X10_week ob0 rfl rfl ⟨by decide, by decide⟩ (Nat.le_of_ble_eq_true rfl) ⟨hcs.1, hcs.2⟩ (ok_X10_week h1) ?_
  refine L_aload_n eL_658 rfl ?_
  refine L_aload_n eL_659 rfl ?_
  refine L_iload_n eL_660 rfl ?_
  refine L_iconst (v := 1) eL_661 (by decide) ?_
  refine L_iadd eL_662 ?_
  refine L_sld eL_663 (hin 1 (by decide) (by decide)) ?_
  refine L_call (as := [.int (xs (nI i + 1).toNatClampNeg)]) (rest := [.int r]) (q := 11) eL_664 mlL_81 mb_X11_week mi_X11_week ob11 rfl rfl ⟨by decide, by decide⟩ (Nat.le_of_ble_eq_true rfl) ⟨hcs.1, hcs.2⟩ (ok_X11_week h2) ?_
  exact L_icmp_eq eL_667 hK
set_option maxRecDepth 100000 in
theorem law_case_16 {l : Launch} {g : Cx} {b L : Nat} {xs : Nat → Int32} {cells slots i : Nat} {M M1 M2 : Mem} {r : Int32} (hcs : cells ≤ 600000 ∧ slots ≤ 7302250) (hin : ∀ j : Int32, 0 < j.toInt → j.toInt < 5 → vp_in (nI i + j) L) (h1 : f_X10_feed (xs (nI i + 1).toNatClampNeg) M = some (r, M1)) (h2 : f_X11_feed (xs (nI i + 1).toNatClampNeg) M1 = some (r, M2)) (hK : LT l g b L xs cells slots 1226 [some (.ref b), some (.ref (g.1 0)), some (.ref (g.1 11)), some (.int (nI i))] [] M2) : LT l g b L xs cells slots 672 [some (.ref b), some (.ref (g.1 0)), some (.ref (g.1 11)), some (.int (nI i))] [] M := by
  refine L_aload_n eL_672 rfl ?_
  refine L_aload_n eL_673 rfl ?_
  refine L_iload_n eL_674 rfl ?_
  refine L_iconst (v := 1) eL_675 (by decide) ?_
  refine L_iadd eL_676 ?_
  refine L_sld eL_677 (hin 1 (by decide) (by decide)) ?_
  refine L_call (as := [.int (xs (nI i + 1).toNatClampNeg)]) (rest := []) (q := 0) eL_678 mlL_82 mb_X10_feed mi_X10_feed ob0 rfl rfl ⟨by decide, by decide⟩ (Nat.le_of_ble_eq_true rfl) ⟨hcs.1, hcs.2⟩ (ok_X10_feed h1) ?_
  refine L_aload_n eL_681 rfl ?_
  refine L_aload_n eL_682 rfl ?_
  refine L_iload_n eL_683 rfl ?_
  refine L_iconst (v := 1) eL_684 (by decide) ?_
  refine L_iadd eL_685 ?_
  refine L_sld eL_686 (hin 1 (by decide) (by decide)) ?_
  refine L_call (as := [.int (xs (nI i + 1).toNatClampNeg)]) (rest := [.int r]) (q := 11) eL_687 mlL_85 mb_X11_feed mi_X11_feed ob11 rfl rfl ⟨by decide, by decide⟩ (Nat.le_of_ble_eq_true rfl) ⟨hcs.1, hcs.2⟩ (ok_X11_feed h2) ?_
  exact L_icmp_eq eL_690 hK
set_option maxRecDepth 100000 in
theorem law_case_17 {l : Launch} {g : Cx} {b L : Nat} {xs : Nat → Int32} {cells slots i : Nat} {M M1 M2 : Mem} {r : Int32} (hcs : cells ≤ 600000 ∧ slots ≤ 7302250) (hin : ∀ j : Int32, 0 < j.toInt → j.toInt < 5 → vp_in (nI i + j) L) (h1 : f_X10_read  M = some (r, M1)) (h2 : f_X11_read  M1 = some (r, M2)) (hK : LT l g b L xs cells slots 1226 [some (.ref b), some (.ref (g.1 0)), some (.ref (g.1 11)), some (.int (nI i))] [] M2) : LT l g b L xs cells slots 695 [some (.ref b), some (.ref (g.1 0)), some (.ref (g.1 11)), some (.int (nI i))] [] M := by
  refine L_aload_n eL_695 rfl ?_
  refine L_call (as := []) (rest := []) (q := 0) eL_696 mlL_86 mb_X10_read mi_X10_read ob0 rfl rfl ⟨by decide, by decide⟩ (Nat.le_of_ble_eq_true rfl) ⟨hcs.1, hcs.2⟩ (ok_X10_read h1) ?_
  refine L_aload_n eL_699 rfl ?_
  refine L_call (as := []) (rest := [.int r]) (q := 11) eL_700 mlL_89 mb_X11_read mi_X11_read ob11 rfl rfl ⟨by decide, by decide⟩ (Nat.le_of_ble_eq_true rfl) ⟨hcs.1, hcs.2⟩ (ok_X11_read h2) ?_
  exact L_icmp_eq eL_703 hK
set_option maxRecDepth 100000 in
theorem law_case_18 {l : Launch} {g : Cx} {b L : Nat} {xs : Nat → Int32} {cells slots i : Nat} {M M1 M2 : Mem} {r : Int32} (hcs : cells ≤ 600000 ∧ slots ≤ 7302250) (hin : ∀ j : Int32, 0 < j.toInt → j.toInt < 5 → vp_in (nI i + j) L) (h1 : f_X10_rule (xs (nI i + 1).toNatClampNeg) M = some (r, M1)) (h2 : f_X11_rule (xs (nI i + 1).toNatClampNeg) M1 = some (r, M2)) (hK : LT l g b L xs cells slots 1226 [some (.ref b), some (.ref (g.1 0)), some (.ref (g.1 11)), some (.int (nI i))] [] M2) : LT l g b L xs cells slots 708 [some (.ref b), some (.ref (g.1 0)), some (.ref (g.1 11)), some (.int (nI i))] [] M := by
  refine L_aload_n eL_708 rfl ?_
  refine L_aload_n eL_709 rfl ?_
  refine L_iload_n eL_710 rfl ?_
  refine L_iconst (v := 1) eL_711 (by decide) ?_
  refine L_iadd eL_712 ?_
  refine L_sld eL_713 (hin 1 (by decide) (by decide)) ?_
  refine L_call (as := [.int (xs (nI i + 1).toNatClampNeg)]) (rest := []) (q := 0) eL_714 mlL_90 mb_X10_rule mi_X10_rule ob0 rfl rfl ⟨by decide, by decide⟩ (Nat.le_of_ble_eq_true rfl) ⟨hcs.1, hcs.2⟩ (ok_X10_rule h1) ?_
  refine L_aload_n eL_717 rfl ?_
  refine L_aload_n eL_718 rfl ?_
  refine L_iload_n eL_719 rfl ?_
  refine L_iconst (v := 1) eL_720 (by decide) ?_
  refine L_iadd eL_721 ?_
  refine L_sld eL_722 (hin 1 (by decide) (by decide)) ?_
  refine L_call (as := [.int (xs (nI i + 1).toNatClampNeg)]) (rest := [.int r]) (q := 11) eL_723 mlL_93 mb_X11_rule mi_X11_rule ob11 rfl rfl ⟨by decide, by decide⟩ (Nat.le_of_ble_eq_true rfl) ⟨hcs.1, hcs.2⟩ (ok_X11_rule h2) ?_
  exact L_icmp_eq eL_726 hK
set_option maxRecDepth 100000 in
theorem law_case_19 {l : Launch} {g : Cx} {b L : Nat} {xs : Nat → Int32} {cells slots i : Nat} {M M1 M2 : Mem} {r : Int32} (hcs : cells ≤ 600000 ∧ slots ≤ 7302250) (hin : ∀ j : Int32, 0 < j.toInt → j.toInt < 5 → vp_in (nI i + j) L) (h1 : f_X10_work (xs (nI i + 1).toNatClampNeg) (xs (nI i + 2).toNatClampNeg) (xs (nI i + 3).toNatClampNeg) (xs (nI i + 4).toNatClampNeg) M = some (r, M1)) (h2 : f_X11_work (xs (nI i + 1).toNatClampNeg) (xs (nI i + 2).toNatClampNeg) (xs (nI i + 3).toNatClampNeg) (xs (nI i + 4).toNatClampNeg) M1 = some (r, M2)) (hK : LT l g b L xs cells slots 1226 [some (.ref b), some (.ref (g.1 0)), some (.ref (g.1 11)), some (.int (nI i))] [] M2) : LT l g b L xs cells slots 731 [some (.ref b), some (.ref (g.1 0)), some (.ref (g.1 11)), some (.int (nI i))] [] M := by
  refine L_aload_n eL_731 rfl ?_
  refine L_aload_n eL_732 rfl ?_
  refine L_iload_n eL_733 rfl ?_
  refine L_iconst (v := 1) eL_734 (by decide) ?_
  refine L_iadd eL_735 ?_
  refine L_sld eL_736 (hin 1 (by decide) (by decide)) ?_
  refine L_aload_n eL_737 rfl ?_
  refine L_iload_n eL_738 rfl ?_
  refine L_iconst (v := 2) eL_739 (by decide) ?_
  refine L_iadd eL_740 ?_
  refine L_sld eL_741 (hin 2 (by decide) (by decide)) ?_
  refine L_aload_n eL_742 rfl ?_
  refine L_iload_n eL_743 rfl ?_
  refine L_iconst (v := 3) eL_744 (by decide) ?_
  refine L_iadd eL_745 ?_
  refine L_sld eL_746 (hin 3 (by decide) (by decide)) ?_
  refine L_aload_n eL_747 rfl ?_
  refine L_iload_n eL_748 rfl ?_
  refine L_iconst (v := 4) eL_749 (by decide) ?_
  refine L_iadd eL_750 ?_
  refine L_sld eL_751 (hin 4 (by decide) (by decide)) ?_
  refine L_call (as := [.int (xs (nI i + 1).toNatClampNeg), .int (xs (nI i + 2).toNatClampNeg), .int (xs (nI i + 3).toNatClampNeg), .int (xs (nI i + 4).toNatClampNeg)]) (rest := []) (q := 0) eL_752 mlL_94 mb_X10_work mi_X10_work ob0 rfl rfl ⟨by decide, by decide⟩ (Nat.le_of_ble_eq_true rfl) ⟨hcs.1, hcs.2⟩ (ok_X10_work h1) ?_
  refine L_aload_n eL_755 rfl ?_
  refine L_aload_n eL_756 rfl ?_
  refine L_iload_n eL_757 rfl ?_
  refine L_iconst (v := 1) eL_758 (by decide) ?_
  refine L_iadd eL_759 ?_
  refine L_sld eL_760 (hin 1 (by decide) (by decide)) ?_
  refine L_aload_n eL_761 rfl ?_
  refine L_iload_n eL_762 rfl ?_
  refine L_iconst (v := 2) eL_763 (by decide) ?_
  refine L_iadd eL_764 ?_
  refine L_sld eL_765 (hin 2 (by decide) (by decide)) ?_
  refine L_aload_n eL_766 rfl ?_
  refine L_iload_n eL_767 rfl ?_
  refine L_iconst (v := 3) eL_768 (by decide) ?_
  refine L_iadd eL_769 ?_
  refine L_sld eL_770 (hin 3 (by decide) (by decide)) ?_
  refine L_aload_n eL_771 rfl ?_
  refine L_iload_n eL_772 rfl ?_
  refine L_iconst (v := 4) eL_773 (by decide) ?_
  refine L_iadd eL_774 ?_
  refine L_sld eL_775 (hin 4 (by decide) (by decide)) ?_
  refine L_call (as := [.int (xs (nI i + 1).toNatClampNeg), .int (xs (nI i + 2).toNatClampNeg), .int (xs (nI i + 3).toNatClampNeg), .int (xs (nI i + 4).toNatClampNeg)]) (rest := [.int r]) (q := 11) eL_776 mlL_97 mb_X11_work mi_X11_work ob11 rfl rfl ⟨by decide, by decide⟩ (Nat.le_of_ble_eq_true rfl) ⟨hcs.1, hcs.2⟩ (ok_X11_work h2) ?_
  exact L_icmp_eq eL_779 hK
set_option maxRecDepth 100000 in
theorem law_case_20 {l : Launch} {g : Cx} {b L : Nat} {xs : Nat → Int32} {cells slots i : Nat} {M M1 M2 : Mem} {r : Int32} (hcs : cells ≤ 600000 ∧ slots ≤ 7302250) (hin : ∀ j : Int32, 0 < j.toInt → j.toInt < 5 → vp_in (nI i + j) L) (h1 : f_X10_wait (xs (nI i + 1).toNatClampNeg) (xs (nI i + 2).toNatClampNeg) (xs (nI i + 3).toNatClampNeg) (xs (nI i + 4).toNatClampNeg) M = some (r, M1)) (h2 : f_X11_wait (xs (nI i + 1).toNatClampNeg) (xs (nI i + 2).toNatClampNeg) (xs (nI i + 3).toNatClampNeg) (xs (nI i + 4).toNatClampNeg) M1 = some (r, M2)) (hK : LT l g b L xs cells slots 1226 [some (.ref b), some (.ref (g.1 0)), some (.ref (g.1 11)), some (.int (nI i))] [] M2) : LT l g b L xs cells slots 784 [some (.ref b), some (.ref (g.1 0)), some (.ref (g.1 11)), some (.int (nI i))] [] M := by
  refine L_aload_n eL_784 rfl ?_
  refine L_aload_n eL_785 rfl ?_
  refine L_iload_n eL_786 rfl ?_
  refine L_iconst (v := 1) eL_787 (by decide) ?_
  refine L_iadd eL_788 ?_
  refine L_sld eL_789 (hin 1 (by decide) (by decide)) ?_
  refine L_aload_n eL_790 rfl ?_
  refine L_iload_n eL_791 rfl ?_
  refine L_iconst (v := 2) eL_792 (by decide) ?_
  refine L_iadd eL_793 ?_
  refine L_sld eL_794 (hin 2 (by decide) (by decide)) ?_
  refine L_aload_n eL_795 rfl ?_
  refine L_iload_n eL_796 rfl ?_
  refine L_iconst (v := 3) eL_797 (by decide) ?_
  refine L_iadd eL_798 ?_
  refine L_sld eL_799 (hin 3 (by decide) (by decide)) ?_
  refine L_aload_n eL_800 rfl ?_
  refine L_iload_n eL_801 rfl ?_
  refine L_iconst (v := 4) eL_802 (by decide) ?_
  refine L_iadd eL_803 ?_
  refine L_sld eL_804 (hin 4 (by decide) (by decide)) ?_
  refine L_call (as := [.int (xs (nI i + 1).toNatClampNeg), .int (xs (nI i + 2).toNatClampNeg), .int (xs (nI i + 3).toNatClampNeg), .int (xs (nI i + 4).toNatClampNeg)]) (rest := []) (q := 0) eL_805 mlL_98 mb_X10_wait mi_X10_wait ob0 rfl rfl ⟨by decide, by decide⟩ (Nat.le_of_ble_eq_true rfl) ⟨hcs.1, hcs.2⟩ (ok_X10_wait h1) ?_
  refine L_aload_n eL_808 rfl ?_
  refine L_aload_n eL_809 rfl ?_
  refine L_iload_n eL_810 rfl ?_
  refine L_iconst (v := 1) eL_811 (by decide) ?_
  refine L_iadd eL_812 ?_
  refine L_sld eL_813 (hin 1 (by decide) (by decide)) ?_
  refine L_aload_n eL_814 rfl ?_
  refine L_iload_n eL_815 rfl ?_
  refine L_iconst (v := 2) eL_816 (by decide) ?_
  refine L_iadd eL_817 ?_
  refine L_sld eL_818 (hin 2 (by decide) (by decide)) ?_
  refine L_aload_n eL_819 rfl ?_
  refine L_iload_n eL_820 rfl ?_
  refine L_iconst (v := 3) eL_821 (by decide) ?_
  refine L_iadd eL_822 ?_
  refine L_sld eL_823 (hin 3 (by decide) (by decide)) ?_
  refine L_aload_n eL_824 rfl ?_
  refine L_iload_n eL_825 rfl ?_
  refine L_iconst (v := 4) eL_826 (by decide) ?_
  refine L_iadd eL_827 ?_
  refine L_sld eL_828 (hin 4 (by decide) (by decide)) ?_
  refine L_call (as := [.int (xs (nI i + 1).toNatClampNeg), .int (xs (nI i + 2).toNatClampNeg), .int (xs (nI i + 3).toNatClampNeg), .int (xs (nI i + 4).toNatClampNeg)]) (rest := [.int r]) (q := 11) eL_829 mlL_101 mb_X11_wait mi_X11_wait ob11 rfl rfl ⟨by decide, by decide⟩ (Nat.le_of_ble_eq_true rfl) ⟨hcs.1, hcs.2⟩ (ok_X11_wait h2) ?_
  exact L_icmp_eq eL_832 hK
set_option maxRecDepth 100000 in
theorem law_case_21 {l : Launch} {g : Cx} {b L : Nat} {xs : Nat → Int32} {cells slots i : Nat} {M M1 M2 : Mem} {r : Int32} (hcs : cells ≤ 600000 ∧ slots ≤ 7302250) (hin : ∀ j : Int32, 0 < j.toInt → j.toInt < 5 → vp_in (nI i + j) L) (h1 : f_X10_learner (xs (nI i + 1).toNatClampNeg) (xs (nI i + 2).toNatClampNeg) (xs (nI i + 3).toNatClampNeg) M = some (r, M1)) (h2 : f_X11_learner (xs (nI i + 1).toNatClampNeg) (xs (nI i + 2).toNatClampNeg) (xs (nI i + 3).toNatClampNeg) M1 = some (r, M2)) (hK : LT l g b L xs cells slots 1226 [some (.ref b), some (.ref (g.1 0)), some (.ref (g.1 11)), some (.int (nI i))] [] M2) : LT l g b L xs cells slots 837 [some (.ref b), some (.ref (g.1 0)), some (.ref (g.1 11)), some (.int (nI i))] [] M := by
  refine L_aload_n eL_837 rfl ?_
  refine L_aload_n eL_838 rfl ?_
  refine L_iload_n eL_839 rfl ?_
  refine L_iconst (v := 1) eL_840 (by decide) ?_
  refine L_iadd eL_841 ?_
  refine L_sld eL_842 (hin 1 (by decide) (by decide)) ?_
  refine L_aload_n eL_843 rfl ?_
  refine L_iload_n eL_844 rfl ?_
  refine L_iconst (v := 2) eL_845 (by decide) ?_
  refine L_iadd eL_846 ?_
  refine L_sld eL_847 (hin 2 (by decide) (by decide)) ?_
  refine L_aload_n eL_848 rfl ?_
  refine L_iload_n eL_849 rfl ?_
  refine L_iconst (v := 3) eL_850 (by decide) ?_
  refine L_iadd eL_851 ?_
  refine L_sld eL_852 (hin 3 (by decide) (by decide)) ?_
  refine L_call (as := [.int (xs (nI i + 1).toNatClampNeg), .int (xs (nI i + 2).toNatClampNeg), .int (xs (nI i + 3).toNatClampNeg)]) (rest := []) (q := 0) eL_853 mlL_102 mb_X10_learner mi_X10_learner ob0 rfl rfl ⟨by decide, by decide⟩ (Nat.le_of_ble_eq_true rfl) ⟨hcs.1, hcs.2⟩ (ok_X10_learner h1) ?_
  refine L_aload_n eL_856 rfl ?_
  refine L_aload_n eL_857 rfl ?_
  refine L_iload_n eL_858 rfl ?_
  refine L_iconst (v := 1) eL_859 (by decide) ?_
  refine L_iadd eL_860 ?_
  refine L_sld eL_861 (hin 1 (by decide) (by decide)) ?_
  refine L_aload_n eL_862 rfl ?_
  refine L_iload_n eL_863 rfl ?_
  refine L_iconst (v := 2) eL_864 (by decide) ?_
  refine L_iadd eL_865 ?_
  refine L_sld eL_866 (hin 2 (by decide) (by decide)) ?_
  refine L_aload_n eL_867 rfl ?_
  refine L_iload_n eL_868 rfl ?_
  refine L_iconst (v := 3) eL_869 (by decide) ?_
  refine L_iadd eL_870 ?_
  refine L_sld eL_871 (hin 3 (by decide) (by decide)) ?_
  refine L_call (as := [.int (xs (nI i + 1).toNatClampNeg), .int (xs (nI i + 2).toNatClampNeg), .int (xs (nI i + 3).toNatClampNeg)]) (rest := [.int r]) (q := 11) eL_872 mlL_105 mb_X11_learner mi_X11_learner ob11 rfl rfl ⟨by decide, by decide⟩ (Nat.le_of_ble_eq_true rfl) ⟨hcs.1, hcs.2⟩ (ok_X11_learner h2) ?_
  exact L_icmp_eq eL_875 hK
set_option maxRecDepth 100000 in
theorem law_case_22 {l : Launch} {g : Cx} {b L : Nat} {xs : Nat → Int32} {cells slots i : Nat} {M M1 M2 : Mem} {r : Int32} (hcs : cells ≤ 600000 ∧ slots ≤ 7302250) (hin : ∀ j : Int32, 0 < j.toInt → j.toInt < 5 → vp_in (nI i + j) L) (h1 : f_X10_earned (xs (nI i + 1).toNatClampNeg) M = some (r, M1)) (h2 : f_X11_earned (xs (nI i + 1).toNatClampNeg) M1 = some (r, M2)) (hK : LT l g b L xs cells slots 1226 [some (.ref b), some (.ref (g.1 0)), some (.ref (g.1 11)), some (.int (nI i))] [] M2) : LT l g b L xs cells slots 880 [some (.ref b), some (.ref (g.1 0)), some (.ref (g.1 11)), some (.int (nI i))] [] M := by
  refine L_aload_n eL_880 rfl ?_
  refine L_aload_n eL_881 rfl ?_
  refine L_iload_n eL_882 rfl ?_
  refine L_iconst (v := 1) eL_883 (by decide) ?_
  refine L_iadd eL_884 ?_
  refine L_sld eL_885 (hin 1 (by decide) (by decide)) ?_
  refine L_call (as := [.int (xs (nI i + 1).toNatClampNeg)]) (rest := []) (q := 0) eL_886 mlL_106 mb_X10_earned mi_X10_earned ob0 rfl rfl ⟨by decide, by decide⟩ (Nat.le_of_ble_eq_true rfl) ⟨hcs.1, hcs.2⟩ (ok_X10_earned h1) ?_
  refine L_aload_n eL_889 rfl ?_
  refine L_aload_n eL_890 rfl ?_
  refine L_iload_n eL_891 rfl ?_
  refine L_iconst (v := 1) eL_892 (by decide) ?_
  refine L_iadd eL_893 ?_
  refine L_sld eL_894 (hin 1 (by decide) (by decide)) ?_
  refine L_call (as := [.int (xs (nI i + 1).toNatClampNeg)]) (rest := [.int r]) (q := 11) eL_895 mlL_109 mb_X11_earned mi_X11_earned ob11 rfl rfl ⟨by decide, by decide⟩ (Nat.le_of_ble_eq_true rfl) ⟨hcs.1, hcs.2⟩ (ok_X11_earned h2) ?_
  exact L_icmp_eq eL_898 hK
set_option maxRecDepth 100000 in
theorem law_case_23 {l : Launch} {g : Cx} {b L : Nat} {xs : Nat → Int32} {cells slots i : Nat} {M M1 M2 : Mem} {r : Int32} (hcs : cells ≤ 600000 ∧ slots ≤ 7302250) (hin : ∀ j : Int32, 0 < j.toInt → j.toInt < 5 → vp_in (nI i + j) L) (h1 : f_X10_pay (xs (nI i + 1).toNatClampNeg) (xs (nI i + 2).toNatClampNeg) (xs (nI i + 3).toNatClampNeg) M = some (r, M1)) (h2 : f_X11_pay (xs (nI i + 1).toNatClampNeg) (xs (nI i + 2).toNatClampNeg) (xs (nI i + 3).toNatClampNeg) M1 = some (r, M2)) (hK : LT l g b L xs cells slots 1226 [some (.ref b), some (.ref (g.1 0)), some (.ref (g.1 11)), some (.int (nI i))] [] M2) : LT l g b L xs cells slots 903 [some (.ref b), some (.ref (g.1 0)), some (.ref (g.1 11)), some (.int (nI i))] [] M := by
  refine L_aload_n eL_903 rfl ?_
  refine L_aload_n eL_904 rfl ?_
  refine L_iload_n eL_905 rfl ?_
  refine L_iconst (v := 1) eL_906 (by decide) ?_
  refine L_iadd eL_907 ?_
  refine L_sld eL_908 (hin 1 (by decide) (by decide)) ?_
  refine L_aload_n eL_909 rfl ?_
  refine L_iload_n eL_910 rfl ?_
  refine L_iconst (v := 2) eL_911 (by decide) ?_
  refine L_iadd eL_912 ?_
  refine L_sld eL_913 (hin 2 (by decide) (by decide)) ?_
  refine L_aload_n eL_914 rfl ?_
  refine L_iload_n eL_915 rfl ?_
  refine L_iconst (v := 3) eL_916 (by decide) ?_
  refine L_iadd eL_917 ?_
  refine L_sld eL_918 (hin 3 (by decide) (by decide)) ?_
  refine L_call (as := [.int (xs (nI i + 1).toNatClampNeg), .int (xs (nI i + 2).toNatClampNeg), .int (xs (nI i + 3).toNatClampNeg)]) (rest := []) (q := 0) eL_919 mlL_110 mb_X10_pay mi_X10_pay ob0 rfl rfl ⟨by decide, by decide⟩ (Nat.le_of_ble_eq_true rfl) ⟨hcs.1, hcs.2⟩ (ok_X10_pay h1) ?_
  refine L_aload_n eL_922 rfl ?_
  refine L_aload_n eL_923 rfl ?_
  refine L_iload_n eL_924 rfl ?_
  refine L_iconst (v := 1) eL_925 (by decide) ?_
  refine L_iadd eL_926 ?_
  refine L_sld eL_927 (hin 1 (by decide) (by decide)) ?_
  refine L_aload_n eL_928 rfl ?_
  refine L_iload_n eL_929 rfl ?_
  refine L_iconst (v := 2) eL_930 (by decide) ?_
  refine L_iadd eL_931 ?_
  refine L_sld eL_932 (hin 2 (by decide) (by decide)) ?_
  refine L_aload_n eL_933 rfl ?_
  refine L_iload_n eL_934 rfl ?_
  refine L_iconst (v := 3) eL_935 (by decide) ?_
  refine L_iadd eL_936 ?_
  refine L_sld eL_937 (hin 3 (by decide) (by decide)) ?_
  refine L_call (as := [.int (xs (nI i + 1).toNatClampNeg), .int (xs (nI i + 2).toNatClampNeg), .int (xs (nI i + 3).toNatClampNeg)]) (rest := [.int r]) (q := 11) eL_938 mlL_113 mb_X11_pay mi_X11_pay ob11 rfl rfl ⟨by decide, by decide⟩ (Nat.le_of_ble_eq_true rfl) ⟨hcs.1, hcs.2⟩ (ok_X11_pay h2) ?_
  exact L_icmp_eq eL_941 hK
set_option maxRecDepth 100000 in
theorem law_case_24 {l : Launch} {g : Cx} {b L : Nat} {xs : Nat → Int32} {cells slots i : Nat} {M M1 M2 : Mem} {r : Int32} (hcs : cells ≤ 600000 ∧ slots ≤ 7302250) (hin : ∀ j : Int32, 0 < j.toInt → j.toInt < 5 → vp_in (nI i + j) L) (h1 : f_X10_cause (xs (nI i + 1).toNatClampNeg) M = some (r, M1)) (h2 : f_X11_cause (xs (nI i + 1).toNatClampNeg) M1 = some (r, M2)) (hK : LT l g b L xs cells slots 1226 [some (.ref b), some (.ref (g.1 0)), some (.ref (g.1 11)), some (.int (nI i))] [] M2) : LT l g b L xs cells slots 946 [some (.ref b), some (.ref (g.1 0)), some (.ref (g.1 11)), some (.int (nI i))] [] M := by
  refine L_aload_n eL_946 rfl ?_
  refine L_aload_n eL_947 rfl ?_
  refine L_iload_n eL_948 rfl ?_
  refine L_iconst (v := 1) eL_949 (by decide) ?_
  refine L_iadd eL_950 ?_
  refine L_sld eL_951 (hin 1 (by decide) (by decide)) ?_
  refine L_call (as := [.int (xs (nI i + 1).toNatClampNeg)]) (rest := []) (q := 0) eL_952 mlL_114 mb_X10_cause mi_X10_cause ob0 rfl rfl ⟨by decide, by decide⟩ (Nat.le_of_ble_eq_true rfl) ⟨hcs.1, hcs.2⟩ (ok_X10_cause h1) ?_
  refine L_aload_n eL_955 rfl ?_
  refine L_aload_n eL_956 rfl ?_
  refine L_iload_n eL_957 rfl ?_
  refine L_iconst (v := 1) eL_958 (by decide) ?_
  refine L_iadd eL_959 ?_
  refine L_sld eL_960 (hin 1 (by decide) (by decide)) ?_
  refine L_call (as := [.int (xs (nI i + 1).toNatClampNeg)]) (rest := [.int r]) (q := 11) eL_961 mlL_117 mb_X11_cause mi_X11_cause ob11 rfl rfl ⟨by decide, by decide⟩ (Nat.le_of_ble_eq_true rfl) ⟨hcs.1, hcs.2⟩ (ok_X11_cause h2) ?_
  exact L_icmp_eq eL_964 hK
set_option maxRecDepth 100000 in
theorem law_case_25 {l : Launch} {g : Cx} {b L : Nat} {xs : Nat → Int32} {cells slots i : Nat} {M M1 M2 : Mem} {r : Int32} (hcs : cells ≤ 600000 ∧ slots ≤ 7302250) (hin : ∀ j : Int32, 0 < j.toInt → j.toInt < 5 → vp_in (nI i + j) L) (h1 : f_X10_pool (xs (nI i + 1).toNatClampNeg) (xs (nI i + 2).toNatClampNeg) (xs (nI i + 3).toNatClampNeg) M = some (r, M1)) (h2 : f_X11_pool (xs (nI i + 1).toNatClampNeg) (xs (nI i + 2).toNatClampNeg) (xs (nI i + 3).toNatClampNeg) M1 = some (r, M2)) (hK : LT l g b L xs cells slots 1226 [some (.ref b), some (.ref (g.1 0)), some (.ref (g.1 11)), some (.int (nI i))] [] M2) : LT l g b L xs cells slots 969 [some (.ref b), some (.ref (g.1 0)), some (.ref (g.1 11)), some (.int (nI i))] [] M := by
  refine L_aload_n eL_969 rfl ?_
  refine L_aload_n eL_970 rfl ?_
  refine L_iload_n eL_971 rfl ?_
  refine L_iconst (v := 1) eL_972 (by decide) ?_
  refine L_iadd eL_973 ?_
  refine L_sld eL_974 (hin 1 (by decide) (by decide)) ?_
  refine L_aload_n eL_975 rfl ?_
  refine L_iload_n eL_976 rfl ?_
  refine L_iconst (v := 2) eL_977 (by decide) ?_
  refine L_iadd eL_978 ?_
  refine L_sld eL_979 (hin 2 (by decide) (by decide)) ?_
  refine L_aload_n eL_980 rfl ?_
  refine L_iload_n eL_981 rfl ?_
  refine L_iconst (v := 3) eL_982 (by decide) ?_
  refine L_iadd eL_983 ?_
  refine L_sld eL_984 (hin 3 (by decide) (by decide)) ?_
  refine L_call (as := [.int (xs (nI i + 1).toNatClampNeg), .int (xs (nI i + 2).toNatClampNeg), .int (xs (nI i + 3).toNatClampNeg)]) (rest := []) (q := 0) eL_985 mlL_118 mb_X10_pool mi_X10_pool ob0 rfl rfl ⟨by decide, by decide⟩ (Nat.le_of_ble_eq_true rfl) ⟨hcs.1, hcs.2⟩ (ok_X10_pool h1) ?_
  refine L_aload_n eL_988 rfl ?_
  refine L_aload_n eL_989 rfl ?_
  refine L_iload_n eL_990 rfl ?_
  refine L_iconst (v := 1) eL_991 (by decide) ?_
  refine L_iadd eL_992 ?_
  refine L_sld eL_993 (hin 1 (by decide) (by decide)) ?_
  refine L_aload_n eL_994 rfl ?_
  refine L_iload_n eL_995 rfl ?_
  refine L_iconst (v := 2) eL_996 (by decide) ?_
  refine L_iadd eL_997 ?_
  refine L_sld eL_998 (hin 2 (by decide) (by decide)) ?_
  refine L_aload_n eL_999 rfl ?_
  refine L_iload_n eL_1000 rfl ?_
  refine L_iconst (v := 3) eL_1001 (by decide) ?_
  refine L_iadd eL_1002 ?_
  refine L_sld eL_1003 (hin 3 (by decide) (by decide)) ?_
  refine L_call (as := [.int (xs (nI i + 1).toNatClampNeg), .int (xs (nI i + 2).toNatClampNeg), .int (xs (nI i + 3).toNatClampNeg)]) (rest := [.int r]) (q := 11) eL_1004 mlL_121 mb_X11_pool mi_X11_pool ob11 rfl rfl ⟨by decide, by decide⟩ (Nat.le_of_ble_eq_true rfl) ⟨hcs.1, hcs.2⟩ (ok_X11_pool h2) ?_
  exact L_icmp_eq eL_1007 hK
set_option maxRecDepth 100000 in
theorem law_case_26 {l : Launch} {g : Cx} {b L : Nat} {xs : Nat → Int32} {cells slots i : Nat} {M M1 M2 : Mem} {r : Int32} (hcs : cells ≤ 600000 ∧ slots ≤ 7302250) (hin : ∀ j : Int32, 0 < j.toInt → j.toInt < 5 → vp_in (nI i + j) L) (h1 : f_X10_efficiency (xs (nI i + 1).toNatClampNeg) (xs (nI i + 2).toNatClampNeg) M = some (r, M1)) (h2 : f_X11_efficiency (xs (nI i + 1).toNatClampNeg) (xs (nI i + 2).toNatClampNeg) M1 = some (r, M2)) (hK : LT l g b L xs cells slots 1226 [some (.ref b), some (.ref (g.1 0)), some (.ref (g.1 11)), some (.int (nI i))] [] M2) : LT l g b L xs cells slots 1012 [some (.ref b), some (.ref (g.1 0)), some (.ref (g.1 11)), some (.int (nI i))] [] M := by
  refine L_aload_n eL_1012 rfl ?_
  refine L_aload_n eL_1013 rfl ?_
  refine L_iload_n eL_1014 rfl ?_
  refine L_iconst (v := 1) eL_1015 (by decide) ?_
  refine L_iadd eL_1016 ?_
  refine L_sld eL_1017 (hin 1 (by decide) (by decide)) ?_
  refine L_aload_n eL_1018 rfl ?_
  refine L_iload_n eL_1019 rfl ?_
  refine L_iconst (v := 2) eL_1020 (by decide) ?_
  refine L_iadd eL_1021 ?_
  refine L_sld eL_1022 (hin 2 (by decide) (by decide)) ?_
  refine L_call (as := [.int (xs (nI i + 1).toNatClampNeg), .int (xs (nI i + 2).toNatClampNeg)]) (rest := []) (q := 0) eL_1023 mlL_122 mb_X10_efficiency mi_X10_efficiency ob0 rfl rfl ⟨by decide, by decide⟩ (Nat.le_of_ble_eq_true rfl) ⟨hcs.1, hcs.2⟩ (ok_X10_efficiency h1) ?_
  refine L_aload_n eL_1026 rfl ?_
  refine L_aload_n eL_1027 rfl ?_
  refine L_iload_n eL_1028 rfl ?_
  refine L_iconst (v := 1) eL_1029 (by decide) ?_
  refine L_iadd eL_1030 ?_
  refine L_sld eL_1031 (hin 1 (by decide) (by decide)) ?_
  refine L_aload_n eL_1032 rfl ?_
  refine L_iload_n eL_1033 rfl ?_
  refine L_iconst (v := 2) eL_1034 (by decide) ?_
  refine L_iadd eL_1035 ?_
  refine L_sld eL_1036 (hin 2 (by decide) (by decide)) ?_
  refine L_call (as := [.int (xs (nI i + 1).toNatClampNeg), .int (xs (nI i + 2).toNatClampNeg)]) (rest := [.int r]) (q := 11) eL_1037 mlL_125 mb_X11_efficiency mi_X11_efficiency ob11 rfl rfl ⟨by decide, by decide⟩ (Nat.le_of_ble_eq_true rfl) ⟨hcs.1, hcs.2⟩ (ok_X11_efficiency h2) ?_
  exact L_icmp_eq eL_1040 hK
set_option maxRecDepth 100000 in
theorem law_case_27 {l : Launch} {g : Cx} {b L : Nat} {xs : Nat → Int32} {cells slots i : Nat} {M M1 M2 : Mem} {r : Int32} (hcs : cells ≤ 600000 ∧ slots ≤ 7302250) (hin : ∀ j : Int32, 0 < j.toInt → j.toInt < 5 → vp_in (nI i + j) L) (h1 : f_X10_looser (xs (nI i + 1).toNatClampNeg) (xs (nI i + 2).toNatClampNeg) M = some (r, M1)) (h2 : f_X11_looser (xs (nI i + 1).toNatClampNeg) (xs (nI i + 2).toNatClampNeg) M1 = some (r, M2)) (hK : LT l g b L xs cells slots 1226 [some (.ref b), some (.ref (g.1 0)), some (.ref (g.1 11)), some (.int (nI i))] [] M2) : LT l g b L xs cells slots 1045 [some (.ref b), some (.ref (g.1 0)), some (.ref (g.1 11)), some (.int (nI i))] [] M := by
  refine L_aload_n eL_1045 rfl ?_
  refine L_aload_n eL_1046 rfl ?_
  refine L_iload_n eL_1047 rfl ?_
  refine L_iconst (v := 1) eL_1048 (by decide) ?_
  refine L_iadd eL_1049 ?_
  refine L_sld eL_1050 (hin 1 (by decide) (by decide)) ?_
  refine L_aload_n eL_1051 rfl ?_
  refine L_iload_n eL_1052 rfl ?_
  refine L_iconst (v := 2) eL_1053 (by decide) ?_
  refine L_iadd eL_1054 ?_
  refine L_sld eL_1055 (hin 2 (by decide) (by decide)) ?_
  refine L_call (as := [.int (xs (nI i + 1).toNatClampNeg), .int (xs (nI i + 2).toNatClampNeg)]) (rest := []) (q := 0) eL_1056 mlL_126 mb_X10_looser mi_X10_looser ob0 rfl rfl ⟨by decide, by decide⟩ (Nat.le_of_ble_eq_true rfl) ⟨hcs.1, hcs.2⟩ (ok_X10_looser h1) ?_
  refine L_aload_n eL_1059 rfl ?_
  refine L_aload_n eL_1060 rfl ?_
  refine L_iload_n eL_1061 rfl ?_
  refine L_iconst (v := 1) eL_1062 (by decide) ?_
  refine L_iadd eL_1063 ?_
  refine L_sld eL_1064 (hin 1 (by decide) (by decide)) ?_
  refine L_aload_n eL_1065 rfl ?_
  refine L_iload_n eL_1066 rfl ?_
  refine L_iconst (v := 2) eL_1067 (by decide) ?_
  refine L_iadd eL_1068 ?_
  refine L_sld eL_1069 (hin 2 (by decide) (by decide)) ?_
  refine L_call (as := [.int (xs (nI i + 1).toNatClampNeg), .int (xs (nI i + 2).toNatClampNeg)]) (rest := [.int r]) (q := 11) eL_1070 mlL_129 mb_X11_looser mi_X11_looser ob11 rfl rfl ⟨by decide, by decide⟩ (Nat.le_of_ble_eq_true rfl) ⟨hcs.1, hcs.2⟩ (ok_X11_looser h2) ?_
  exact L_icmp_eq eL_1073 hK
set_option maxRecDepth 100000 in
theorem law_case_28 {l : Launch} {g : Cx} {b L : Nat} {xs : Nat → Int32} {cells slots i : Nat} {M M1 M2 : Mem} {r : Int32} (hcs : cells ≤ 600000 ∧ slots ≤ 7302250) (hin : ∀ j : Int32, 0 < j.toInt → j.toInt < 5 → vp_in (nI i + j) L) (h1 : f_X10_order (xs (nI i + 1).toNatClampNeg) M = some (r, M1)) (h2 : f_X11_order (xs (nI i + 1).toNatClampNeg) M1 = some (r, M2)) (hK : LT l g b L xs cells slots 1226 [some (.ref b), some (.ref (g.1 0)), some (.ref (g.1 11)), some (.int (nI i))] [] M2) : LT l g b L xs cells slots 1078 [some (.ref b), some (.ref (g.1 0)), some (.ref (g.1 11)), some (.int (nI i))] [] M := by
  refine L_aload_n eL_1078 rfl ?_
  refine L_aload_n eL_1079 rfl ?_
  refine L_iload_n eL_1080 rfl ?_
  refine L_iconst (v := 1) eL_1081 (by decide) ?_
  refine L_iadd eL_1082 ?_
  refine L_sld eL_1083 (hin 1 (by decide) (by decide)) ?_
  refine L_call (as := [.int (xs (nI i + 1).toNatClampNeg)]) (rest := []) (q := 0) eL_1084 mlL_130 mb_X10_order mi_X10_order ob0 rfl rfl ⟨by decide, by decide⟩ (Nat.le_of_ble_eq_true rfl) ⟨hcs.1, hcs.2⟩ (ok_X10_order h1) ?_
  refine L_aload_n eL_1087 rfl ?_
  refine L_aload_n eL_1088 rfl ?_
  refine L_iload_n eL_1089 rfl ?_
  refine L_iconst (v := 1) eL_1090 (by decide) ?_
  refine L_iadd eL_1091 ?_
  refine L_sld eL_1092 (hin 1 (by decide) (by decide)) ?_
  refine L_call (as := [.int (xs (nI i + 1).toNatClampNeg)]) (rest := [.int r]) (q := 11) eL_1093 mlL_133 mb_X11_order mi_X11_order ob11 rfl rfl ⟨by decide, by decide⟩ (Nat.le_of_ble_eq_true rfl) ⟨hcs.1, hcs.2⟩ (ok_X11_order h2) ?_
  exact L_icmp_eq eL_1096 hK
set_option maxRecDepth 100000 in
theorem law_case_29 {l : Launch} {g : Cx} {b L : Nat} {xs : Nat → Int32} {cells slots i : Nat} {M M1 M2 : Mem} {r : Int32} (hcs : cells ≤ 600000 ∧ slots ≤ 7302250) (hin : ∀ j : Int32, 0 < j.toInt → j.toInt < 5 → vp_in (nI i + j) L) (h1 : f_X10_slow (xs (nI i + 1).toNatClampNeg) (xs (nI i + 2).toNatClampNeg) M = some (r, M1)) (h2 : f_X11_slow (xs (nI i + 1).toNatClampNeg) (xs (nI i + 2).toNatClampNeg) M1 = some (r, M2)) (hK : LT l g b L xs cells slots 1226 [some (.ref b), some (.ref (g.1 0)), some (.ref (g.1 11)), some (.int (nI i))] [] M2) : LT l g b L xs cells slots 1101 [some (.ref b), some (.ref (g.1 0)), some (.ref (g.1 11)), some (.int (nI i))] [] M := by
  refine L_aload_n eL_1101 rfl ?_
  refine L_aload_n eL_1102 rfl ?_
  refine L_iload_n eL_1103 rfl ?_
  refine L_iconst (v := 1) eL_1104 (by decide) ?_
  refine L_iadd eL_1105 ?_
  refine L_sld eL_1106 (hin 1 (by decide) (by decide)) ?_
  refine L_aload_n eL_1107 rfl ?_
  refine L_iload_n eL_1108 rfl ?_
  refine L_iconst (v := 2) eL_1109 (by decide) ?_
  refine L_iadd eL_1110 ?_
  refine L_sld eL_1111 (hin 2 (by decide) (by decide)) ?_
  refine L_call (as := [.int (xs (nI i + 1).toNatClampNeg), .int (xs (nI i + 2).toNatClampNeg)]) (rest := []) (q := 0) eL_1112 mlL_134 mb_X10_slow mi_X10_slow ob0 rfl rfl ⟨by decide, by decide⟩ (Nat.le_of_ble_eq_true rfl) ⟨hcs.1, hcs.2⟩ (ok_X10_slow h1) ?_
  refine L_aload_n eL_1115 rfl ?_
  refine L_aload_n eL_1116 rfl ?_
  refine L_iload_n eL_1117 rfl ?_
  refine L_iconst (v := 1) eL_1118 (by decide) ?_
  refine L_iadd eL_1119 ?_
  refine L_sld eL_1120 (hin 1 (by decide) (by decide)) ?_
  refine L_aload_n eL_1121 rfl ?_
  refine L_iload_n eL_1122 rfl ?_
  refine L_iconst (v := 2) eL_1123 (by decide) ?_
  refine L_iadd eL_1124 ?_
  refine L_sld eL_1125 (hin 2 (by decide) (by decide)) ?_
  refine L_call (as := [.int (xs (nI i + 1).toNatClampNeg), .int (xs (nI i + 2).toNatClampNeg)]) (rest := [.int r]) (q := 11) eL_1126 mlL_137 mb_X11_slow mi_X11_slow ob11 rfl rfl ⟨by decide, by decide⟩ (Nat.le_of_ble_eq_true rfl) ⟨hcs.1, hcs.2⟩ (ok_X11_slow h2) ?_
  exact L_icmp_eq eL_1129 hK
set_option maxRecDepth 100000 in
theorem law_case_30 {l : Launch} {g : Cx} {b L : Nat} {xs : Nat → Int32} {cells slots i : Nat} {M M1 M2 : Mem} {r : Int32} (hcs : cells ≤ 600000 ∧ slots ≤ 7302250) (hin : ∀ j : Int32, 0 < j.toInt → j.toInt < 5 → vp_in (nI i + j) L) (h1 : f_X10_tell (xs (nI i + 1).toNatClampNeg) M = some (r, M1)) (h2 : f_X11_tell (xs (nI i + 1).toNatClampNeg) M1 = some (r, M2)) (hK : LT l g b L xs cells slots 1226 [some (.ref b), some (.ref (g.1 0)), some (.ref (g.1 11)), some (.int (nI i))] [] M2) : LT l g b L xs cells slots 1134 [some (.ref b), some (.ref (g.1 0)), some (.ref (g.1 11)), some (.int (nI i))] [] M := by
  refine L_aload_n eL_1134 rfl ?_
  refine L_aload_n eL_1135 rfl ?_
  refine L_iload_n eL_1136 rfl ?_
  refine L_iconst (v := 1) eL_1137 (by decide) ?_
  refine L_iadd eL_1138 ?_
  refine L_sld eL_1139 (hin 1 (by decide) (by decide)) ?_
  refine L_call (as := [.int (xs (nI i + 1).toNatClampNeg)]) (rest := []) (q := 0) eL_1140 mlL_138 mb_X10_tell mi_X10_tell ob0 rfl rfl ⟨by decide, by decide⟩ (Nat.le_of_ble_eq_true rfl) ⟨hcs.1, hcs.2⟩ (ok_X10_tell h1) ?_
  refine L_aload_n eL_1143 rfl ?_
  refine L_aload_n eL_1144 rfl ?_
  refine L_iload_n eL_1145 rfl ?_
  refine L_iconst (v := 1) eL_1146 (by decide) ?_
  refine L_iadd eL_1147 ?_
  refine L_sld eL_1148 (hin 1 (by decide) (by decide)) ?_
  refine L_call (as := [.int (xs (nI i + 1).toNatClampNeg)]) (rest := [.int r]) (q := 11) eL_1149 mlL_141 mb_X11_tell mi_X11_tell ob11 rfl rfl ⟨by decide, by decide⟩ (Nat.le_of_ble_eq_true rfl) ⟨hcs.1, hcs.2⟩ (ok_X11_tell h2) ?_
  exact L_icmp_eq eL_1152 hK
set_option maxRecDepth 100000 in
theorem law_case_31 {l : Launch} {g : Cx} {b L : Nat} {xs : Nat → Int32} {cells slots i : Nat} {M M1 M2 : Mem} {r : Int32} (hcs : cells ≤ 600000 ∧ slots ≤ 7302250) (hin : ∀ j : Int32, 0 < j.toInt → j.toInt < 5 → vp_in (nI i + j) L) (h1 : f_X10_check (xs (nI i + 1).toNatClampNeg) M = some (r, M1)) (h2 : f_X11_check (xs (nI i + 1).toNatClampNeg) M1 = some (r, M2)) (hK : LT l g b L xs cells slots 1226 [some (.ref b), some (.ref (g.1 0)), some (.ref (g.1 11)), some (.int (nI i))] [] M2) : LT l g b L xs cells slots 1157 [some (.ref b), some (.ref (g.1 0)), some (.ref (g.1 11)), some (.int (nI i))] [] M := by
  refine L_aload_n eL_1157 rfl ?_
  refine L_aload_n eL_1158 rfl ?_
  refine L_iload_n eL_1159 rfl ?_
  refine L_iconst (v := 1) eL_1160 (by decide) ?_
  refine L_iadd eL_1161 ?_
  refine L_sld eL_1162 (hin 1 (by decide) (by decide)) ?_
  refine L_call (as := [.int (xs (nI i + 1).toNatClampNeg)]) (rest := []) (q := 0) eL_1163 mlL_142 mb_X10_check mi_X10_check ob0 rfl rfl ⟨by decide, by decide⟩ (Nat.le_of_ble_eq_true rfl) ⟨hcs.1, hcs.2⟩ (ok_X10_check h1) ?_
  refine L_aload_n eL_1166 rfl ?_
  refine L_aload_n eL_1167 rfl ?_
  refine L_iload_n eL_1168 rfl ?_
  refine L_iconst (v := 1) eL_1169 (by decide) ?_
  refine L_iadd eL_1170 ?_
  refine L_sld eL_1171 (hin 1 (by decide) (by decide)) ?_
  refine L_call (as := [.int (xs (nI i + 1).toNatClampNeg)]) (rest := [.int r]) (q := 11) eL_1172 mlL_145 mb_X11_check mi_X11_check ob11 rfl rfl ⟨by decide, by decide⟩ (Nat.le_of_ble_eq_true rfl) ⟨hcs.1, hcs.2⟩ (ok_X11_check h2) ?_
  exact L_icmp_eq eL_1175 hK
set_option maxRecDepth 100000 in
theorem law_case_32 {l : Launch} {g : Cx} {b L : Nat} {xs : Nat → Int32} {cells slots i : Nat} {M M1 M2 : Mem} {r : Int32} (hcs : cells ≤ 600000 ∧ slots ≤ 7302250) (hin : ∀ j : Int32, 0 < j.toInt → j.toInt < 5 → vp_in (nI i + j) L) (h1 : f_X10_count (xs (nI i + 1).toNatClampNeg) M = some (r, M1)) (h2 : f_X11_count (xs (nI i + 1).toNatClampNeg) M1 = some (r, M2)) (hK : LT l g b L xs cells slots 1226 [some (.ref b), some (.ref (g.1 0)), some (.ref (g.1 11)), some (.int (nI i))] [] M2) : LT l g b L xs cells slots 1180 [some (.ref b), some (.ref (g.1 0)), some (.ref (g.1 11)), some (.int (nI i))] [] M := by
  refine L_aload_n eL_1180 rfl ?_
  refine L_aload_n eL_1181 rfl ?_
  refine L_iload_n eL_1182 rfl ?_
  refine L_iconst (v := 1) eL_1183 (by decide) ?_
  refine L_iadd eL_1184 ?_
  refine L_sld eL_1185 (hin 1 (by decide) (by decide)) ?_
  refine L_call (as := [.int (xs (nI i + 1).toNatClampNeg)]) (rest := []) (q := 0) eL_1186 mlL_146 mb_X10_count mi_X10_count ob0 rfl rfl ⟨by decide, by decide⟩ (Nat.le_of_ble_eq_true rfl) ⟨hcs.1, hcs.2⟩ (ok_X10_count h1) ?_
  refine L_aload_n eL_1189 rfl ?_
  refine L_aload_n eL_1190 rfl ?_
  refine L_iload_n eL_1191 rfl ?_
  refine L_iconst (v := 1) eL_1192 (by decide) ?_
  refine L_iadd eL_1193 ?_
  refine L_sld eL_1194 (hin 1 (by decide) (by decide)) ?_
  refine L_call (as := [.int (xs (nI i + 1).toNatClampNeg)]) (rest := [.int r]) (q := 11) eL_1195 mlL_149 mb_X11_count mi_X11_count ob11 rfl rfl ⟨by decide, by decide⟩ (Nat.le_of_ble_eq_true rfl) ⟨hcs.1, hcs.2⟩ (ok_X11_count h2) ?_
  exact L_icmp_eq eL_1198 hK
set_option maxRecDepth 100000 in
theorem law_case_33 {l : Launch} {g : Cx} {b L : Nat} {xs : Nat → Int32} {cells slots i : Nat} {M M1 M2 : Mem} {r : Int32} (hcs : cells ≤ 600000 ∧ slots ≤ 7302250) (hin : ∀ j : Int32, 0 < j.toInt → j.toInt < 5 → vp_in (nI i + j) L) (h1 : f_X10_found (xs (nI i + 1).toNatClampNeg) M = some (r, M1)) (h2 : f_X11_found (xs (nI i + 1).toNatClampNeg) M1 = some (r, M2)) (hK : LT l g b L xs cells slots 1226 [some (.ref b), some (.ref (g.1 0)), some (.ref (g.1 11)), some (.int (nI i))] [] M2) : LT l g b L xs cells slots 1203 [some (.ref b), some (.ref (g.1 0)), some (.ref (g.1 11)), some (.int (nI i))] [] M := by
  refine L_aload_n eL_1203 rfl ?_
  refine L_aload_n eL_1204 rfl ?_
  refine L_iload_n eL_1205 rfl ?_
  refine L_iconst (v := 1) eL_1206 (by decide) ?_
  refine L_iadd eL_1207 ?_
  refine L_sld eL_1208 (hin 1 (by decide) (by decide)) ?_
  refine L_call (as := [.int (xs (nI i + 1).toNatClampNeg)]) (rest := []) (q := 0) eL_1209 mlL_150 mb_X10_found mi_X10_found ob0 rfl rfl ⟨by decide, by decide⟩ (Nat.le_of_ble_eq_true rfl) ⟨hcs.1, hcs.2⟩ (ok_X10_found h1) ?_
  refine L_aload_n eL_1212 rfl ?_
  refine L_aload_n eL_1213 rfl ?_
  refine L_iload_n eL_1214 rfl ?_
  refine L_iconst (v := 1) eL_1215 (by decide) ?_
  refine L_iadd eL_1216 ?_
  refine L_sld eL_1217 (hin 1 (by decide) (by decide)) ?_
  refine L_call (as := [.int (xs (nI i + 1).toNatClampNeg)]) (rest := [.int r]) (q := 11) eL_1218 mlL_153 mb_X11_found mi_X11_found ob11 rfl rfl ⟨by decide, by decide⟩ (Nat.le_of_ble_eq_true rfl) ⟨hcs.1, hcs.2⟩ (ok_X11_found h2) ?_
  exact L_icmp_eq eL_1221 hK
/-- what the pure part owes: every call keeps the invariant, and both sides answer alike -/
def StepAll (Inv : Mem → Prop) : Prop := ∀ M : Mem, Inv M → (∀ v1 : Int32, ∃ (r : Int32) (M1 M2 : Mem), f_X10_element v1 M = some (r, M1) ∧ f_X11_element v1 M1 = some (r, M2) ∧ Inv M2) ∧ (∀ v1 v2 : Int32, ∃ (r : Int32) (M1 M2 : Mem), f_X10_as v1 v2 M = some (r, M1) ∧ f_X11_as v1 v2 M1 = some (r, M2) ∧ Inv M2) ∧ (∀ v1 v2 : Int32, ∃ (r : Int32) (M1 M2 : Mem), f_X10_allow v1 v2 M = some (r, M1) ∧ f_X11_allow v1 v2 M1 = some (r, M2) ∧ Inv M2) ∧ (∀ v1 v2 v3 : Int32, ∃ (r : Int32) (M1 M2 : Mem), f_X10_film v1 v2 v3 M = some (r, M1) ∧ f_X11_film v1 v2 v3 M1 = some (r, M2) ∧ Inv M2) ∧ (∀ v1 : Int32, ∃ (r : Int32) (M1 M2 : Mem), f_X10_habit v1 M = some (r, M1) ∧ f_X11_habit v1 M1 = some (r, M2) ∧ Inv M2) ∧ (∀ v1 v2 v3 v4 : Int32, ∃ (r : Int32) (M1 M2 : Mem), f_X10_cycle v1 v2 v3 v4 M = some (r, M1) ∧ f_X11_cycle v1 v2 v3 v4 M1 = some (r, M2) ∧ Inv M2) ∧ (∀ v1 : Int32, ∃ (r : Int32) (M1 M2 : Mem), f_X10_normal v1 M = some (r, M1) ∧ f_X11_normal v1 M1 = some (r, M2) ∧ Inv M2) ∧ (∀ v1 v2 : Int32, ∃ (r : Int32) (M1 M2 : Mem), f_X10_of v1 v2 M = some (r, M1) ∧ f_X11_of v1 v2 M1 = some (r, M2) ∧ Inv M2) ∧ (∃ (r : Int32) (M1 M2 : Mem), f_X10_job  M = some (r, M1) ∧ f_X11_job  M1 = some (r, M2) ∧ Inv M2) ∧ (∀ v1 v2 v3 : Int32, ∃ (r : Int32) (M1 M2 : Mem), f_X10_part v1 v2 v3 M = some (r, M1) ∧ f_X11_part v1 v2 v3 M1 = some (r, M2) ∧ Inv M2) ∧ (∀ v1 : Int32, ∃ (r : Int32) (M1 M2 : Mem), f_X10_set v1 M = some (r, M1) ∧ f_X11_set v1 M1 = some (r, M2) ∧ Inv M2) ∧ (∀ v1 : Int32, ∃ (r : Int32) (M1 M2 : Mem), f_X10_change v1 M = some (r, M1) ∧ f_X11_change v1 M1 = some (r, M2) ∧ Inv M2) ∧ (∀ v1 : Int32, ∃ (r : Int32) (M1 M2 : Mem), f_X10_move v1 M = some (r, M1) ∧ f_X11_move v1 M1 = some (r, M2) ∧ Inv M2) ∧ (∀ v1 v2 : Int32, ∃ (r : Int32) (M1 M2 : Mem), f_X10_rate v1 v2 M = some (r, M1) ∧ f_X11_rate v1 v2 M1 = some (r, M2) ∧ Inv M2) ∧ (∀ v1 v2 v3 : Int32, ∃ (r : Int32) (M1 M2 : Mem), f_X10_worth v1 v2 v3 M = some (r, M1) ∧ f_X11_worth v1 v2 v3 M1 = some (r, M2) ∧ Inv M2) ∧ (∀ v1 : Int32, ∃ (r : Int32) (M1 M2 : Mem), f_X10_week v1 M = some (r, M1) ∧ f_X11_week v1 M1 = some (r, M2) ∧ Inv M2) ∧ (∀ v1 : Int32, ∃ (r : Int32) (M1 M2 : Mem), f_X10_feed v1 M = some (r, M1) ∧ f_X11_feed v1 M1 = some (r, M2) ∧ Inv M2) ∧ (∃ (r : Int32) (M1 M2 : Mem), f_X10_read  M = some (r, M1) ∧ f_X11_read  M1 = some (r, M2) ∧ Inv M2) ∧ (∀ v1 : Int32, ∃ (r : Int32) (M1 M2 : Mem), f_X10_rule v1 M = some (r, M1) ∧ f_X11_rule v1 M1 = some (r, M2) ∧ Inv M2) ∧ (∀ v1 v2 v3 v4 : Int32, ∃ (r : Int32) (M1 M2 : Mem), f_X10_work v1 v2 v3 v4 M = some (r, M1) ∧ f_X11_work v1 v2 v3 v4 M1 = some (r, M2) ∧ Inv M2) ∧ (∀ v1 v2 v3 v4 : Int32, ∃ (r : Int32) (M1 M2 : Mem), f_X10_wait v1 v2 v3 v4 M = some (r, M1) ∧ f_X11_wait v1 v2 v3 v4 M1 = some (r, M2) ∧ Inv M2) ∧ (∀ v1 v2 v3 : Int32, ∃ (r : Int32) (M1 M2 : Mem), f_X10_learner v1 v2 v3 M = some (r, M1) ∧ f_X11_learner v1 v2 v3 M1 = some (r, M2) ∧ Inv M2) ∧ (∀ v1 : Int32, ∃ (r : Int32) (M1 M2 : Mem), f_X10_earned v1 M = some (r, M1) ∧ f_X11_earned v1 M1 = some (r, M2) ∧ Inv M2) ∧ (∀ v1 v2 v3 : Int32, ∃ (r : Int32) (M1 M2 : Mem), f_X10_pay v1 v2 v3 M = some (r, M1) ∧ f_X11_pay v1 v2 v3 M1 = some (r, M2) ∧ Inv M2) ∧ (∀ v1 : Int32, ∃ (r : Int32) (M1 M2 : Mem), f_X10_cause v1 M = some (r, M1) ∧ f_X11_cause v1 M1 = some (r, M2) ∧ Inv M2) ∧ (∀ v1 v2 v3 : Int32, ∃ (r : Int32) (M1 M2 : Mem), f_X10_pool v1 v2 v3 M = some (r, M1) ∧ f_X11_pool v1 v2 v3 M1 = some (r, M2) ∧ Inv M2) ∧ (∀ v1 v2 : Int32, ∃ (r : Int32) (M1 M2 : Mem), f_X10_efficiency v1 v2 M = some (r, M1) ∧ f_X11_efficiency v1 v2 M1 = some (r, M2) ∧ Inv M2) ∧ (∀ v1 v2 : Int32, ∃ (r : Int32) (M1 M2 : Mem), f_X10_looser v1 v2 M = some (r, M1) ∧ f_X11_looser v1 v2 M1 = some (r, M2) ∧ Inv M2) ∧ (∀ v1 : Int32, ∃ (r : Int32) (M1 M2 : Mem), f_X10_order v1 M = some (r, M1) ∧ f_X11_order v1 M1 = some (r, M2) ∧ Inv M2) ∧ (∀ v1 v2 : Int32, ∃ (r : Int32) (M1 M2 : Mem), f_X10_slow v1 v2 M = some (r, M1) ∧ f_X11_slow v1 v2 M1 = some (r, M2) ∧ Inv M2) ∧ (∀ v1 : Int32, ∃ (r : Int32) (M1 M2 : Mem), f_X10_tell v1 M = some (r, M1) ∧ f_X11_tell v1 M1 = some (r, M2) ∧ Inv M2) ∧ (∀ v1 : Int32, ∃ (r : Int32) (M1 M2 : Mem), f_X10_check v1 M = some (r, M1) ∧ f_X11_check v1 M1 = some (r, M2) ∧ Inv M2) ∧ (∀ v1 : Int32, ∃ (r : Int32) (M1 M2 : Mem), f_X10_count v1 M = some (r, M1) ∧ f_X11_count v1 M1 = some (r, M2) ∧ Inv M2) ∧ (∀ v1 : Int32, ∃ (r : Int32) (M1 M2 : Mem), f_X10_found v1 M = some (r, M1) ∧ f_X11_found v1 M1 = some (r, M2) ∧ Inv M2)
theorem sh_5 : ∀ j : Int32, 0 < j.toInt → j.toInt < 5 → ∃ k : Nat, k < 5 ∧ j = nI k := by
  intro j h1 h2
  refine ⟨j.toInt.toNat, by omega, ?_⟩
  apply Int32.toInt_inj.mp
  rw [nI_toInt (by omega)]
  omega
theorem law_out {L i : Nat} (hL : L ≤ 2560) (h : L < i + 5) (h2 : i ≤ L + 5) : nI L - 5 < nI i := by
  have e5 : (5 : Int32) = nI 5 := rfl
  rw [e5]
  apply Int32.lt_iff_toInt_lt.mpr
  rw [pk_sub_toInt (by omega) (by omega), nI_toInt (by omega)]
  omega
set_option maxRecDepth 100000 in
theorem law_loop {l : Launch} {g : Cx} {b L : Nat} {xs : Nat → Int32} {cells slots : Nat} {Inv : Mem → Prop} (hL : L ≤ 2560) (hcs : cells ≤ 600000 ∧ slots ≤ 7302250) (hst : StepAll Inv) : ∀ (k i : Nat) (M : Mem), L + 5 ≤ i + k → i ≤ L + 5 → Inv M → LT l g b L xs cells slots 18 [some (.ref b), some (.ref (g.1 0)), some (.ref (g.1 11)), some (.int (nI i))] [] M
  | 0, i, M, h1, h2, hI => by
    refine L_iload_n eL_18 rfl ?_
    refine L_aload_n eL_19 rfl ?_
    refine L_slen eL_20 ?_
    refine L_iconst (v := 5) eL_21 (by decide) ?_
    refine L_isub eL_22 ?_
    refine L_icmp_gt eL_23 (fun _ => ?_) (fun h => absurd (law_out hL (by omega) (by omega)) h)
    refine L_iconst (v := 1) eL_1232 (by decide) ?_
    exact L_ret1 eL_1233 hcs.1 hcs.2
  | k + 1, i, M, h1, h2, hI => by
    have ih := law_loop (l := l) (g := g) (b := b) (xs := xs) (cells := cells) (slots := slots) hL hcs hst k
    refine L_iload_n eL_18 rfl ?_
    refine L_aload_n eL_19 rfl ?_
    refine L_slen eL_20 ?_
    refine L_iconst (v := 5) eL_21 (by decide) ?_
    refine L_isub eL_22 ?_
    refine L_icmp_gt eL_23 (fun _ => ?_) (fun h => ?_)
    · refine L_iconst (v := 1) eL_1232 (by decide) ?_
      exact L_ret1 eL_1233 hcs.1 hcs.2
    have hi : i + 5 ≤ L := by
      rcases Nat.lt_or_ge L (i + 5) with q | q
      · exact absurd (law_out hL q h2) h
      · exact q
    have hin : ∀ j : Int32, 0 < j.toInt → j.toInt < 5 → vp_in (nI i + j) L := by
      intro j a1 a2
      obtain ⟨z, hz, rfl⟩ := sh_5 j a1 a2
      rw [nI_add]
      exact vp_in_nI (by omega) (by omega)
    have back : ∀ M2 : Mem, Inv M2 → LT l g b L xs cells slots 1226 [some (.ref b), some (.ref (g.1 0)), some (.ref (g.1 11)), some (.int (nI i))] [] M2 := by
      intro M2 h2
      refine L_iinc (d := 5) eL_1226 rfl (by decide) (by decide) (fun x _ h => (Option.some.inj h : some (.ref (g.1 11)) = x) ▸ rfl) ?_
      refine L_goto eL_1229 ?_
      have e5 : nI i + 5 = nI (i + 5) := nI_add i 5
      show LT l g b L xs cells slots 18 [some (.ref b), some (.ref (g.1 0)), some (.ref (g.1 11)), some (.int (nI i + 5))] [] M2
      rw [e5]
      exact ih (i + 5) M2 (by omega) (by omega) h2
    refine L_aload_n eL_26 rfl ?_
    refine L_iload_n eL_27 rfl ?_
    refine L_sld eL_28 (vp_in_nI (by omega) (by omega)) ?_
    refine L_bipush (v := 63) eL_29 (by decide) ?_
    refine L_iand eL_31 ?_
    generalize xs (nI i).toNatClampNeg &&& 63 = op
    obtain ⟨s0, s1, s2, s3, s4, s5, s6, s7, s8, s9, s10, s11, s12, s13, s14, s15, s16, s17, s18, s19, s20, s21, s22, s23, s24, s25, s26, s27, s28, s29, s30, s31, s32, s33⟩ := hst M hI
    by_cases hc0 : op = 0
    · obtain ⟨r, M1, M2, q1, q2, q3⟩ := s0 _
      exact L_tsIn (k0 := 0) eL_32 (by rw [hc0]; decide) rfl (law_case_0 hcs hin q1 q2 (back M2 q3))
    by_cases hc1 : op = 1
    · obtain ⟨r, M1, M2, q1, q2, q3⟩ := s1 _ _
      exact L_tsIn (k0 := 1) eL_32 (by rw [hc1]; decide) rfl (law_case_1 hcs hin q1 q2 (back M2 q3))
    by_cases hc2 : op = 2
    · obtain ⟨r, M1, M2, q1, q2, q3⟩ := s2 _ _
      exact L_tsIn (k0 := 2) eL_32 (by rw [hc2]; decide) rfl (law_case_2 hcs hin q1 q2 (back M2 q3))
    by_cases hc3 : op = 3
    · obtain ⟨r, M1, M2, q1, q2, q3⟩ := s3 _ _ _
      exact L_tsIn (k0 := 3) eL_32 (by rw [hc3]; decide) rfl (law_case_3 hcs hin q1 q2 (back M2 q3))
    by_cases hc4 : op = 4
    · obtain ⟨r, M1, M2, q1, q2, q3⟩ := s4 _
      exact L_tsIn (k0 := 4) eL_32 (by rw [hc4]; decide) rfl (law_case_4 hcs hin q1 q2 (back M2 q3))
    by_cases hc5 : op = 5
    · obtain ⟨r, M1, M2, q1, q2, q3⟩ := s5 _ _ _ _
      exact L_tsIn (k0 := 5) eL_32 (by rw [hc5]; decide) rfl (law_case_5 hcs hin q1 q2 (back M2 q3))
    by_cases hc6 : op = 6
    · obtain ⟨r, M1, M2, q1, q2, q3⟩ := s6 _
      exact L_tsIn (k0 := 6) eL_32 (by rw [hc6]; decide) rfl (law_case_6 hcs hin q1 q2 (back M2 q3))
    by_cases hc7 : op = 7
    · obtain ⟨r, M1, M2, q1, q2, q3⟩ := s7 _ _
      exact L_tsIn (k0 := 7) eL_32 (by rw [hc7]; decide) rfl (law_case_7 hcs hin q1 q2 (back M2 q3))
    by_cases hc8 : op = 8
    · obtain ⟨r, M1, M2, q1, q2, q3⟩ := s8
      exact L_tsIn (k0 := 8) eL_32 (by rw [hc8]; decide) rfl (law_case_8 hcs hin q1 q2 (back M2 q3))
    by_cases hc9 : op = 9
    · obtain ⟨r, M1, M2, q1, q2, q3⟩ := s9 _ _ _
      exact L_tsIn (k0 := 9) eL_32 (by rw [hc9]; decide) rfl (law_case_9 hcs hin q1 q2 (back M2 q3))
    by_cases hc10 : op = 10
    · obtain ⟨r, M1, M2, q1, q2, q3⟩ := s10 _
      exact L_tsIn (k0 := 10) eL_32 (by rw [hc10]; decide) rfl (law_case_10 hcs hin q1 q2 (back M2 q3))
    by_cases hc11 : op = 11
    · obtain ⟨r, M1, M2, q1, q2, q3⟩ := s11 _
      exact L_tsIn (k0 := 11) eL_32 (by rw [hc11]; decide) rfl (law_case_11 hcs hin q1 q2 (back M2 q3))
    by_cases hc12 : op = 12
    · obtain ⟨r, M1, M2, q1, q2, q3⟩ := s12 _
      exact L_tsIn (k0 := 12) eL_32 (by rw [hc12]; decide) rfl (law_case_12 hcs hin q1 q2 (back M2 q3))
    by_cases hc13 : op = 13
    · obtain ⟨r, M1, M2, q1, q2, q3⟩ := s13 _ _
      exact L_tsIn (k0 := 13) eL_32 (by rw [hc13]; decide) rfl (law_case_13 hcs hin q1 q2 (back M2 q3))
    by_cases hc14 : op = 14
    · obtain ⟨r, M1, M2, q1, q2, q3⟩ := s14 _ _ _
      exact L_tsIn (k0 := 14) eL_32 (by rw [hc14]; decide) rfl (law_case_14 hcs hin q1 q2 (back M2 q3))
    by_cases hc15 : op = 15
    · obtain ⟨r, M1, M2, q1, q2, q3⟩ := s15 _
      exact L_tsIn (k0 := 15) eL_32 (by rw [hc15]; decide) rfl (law_case_15 hcs hin q1 q2 (back M2 q3))
    by_cases hc16 : op = 16
    · obtain ⟨r, M1, M2, q1, q2, q3⟩ := s16 _
      exact L_tsIn (k0 := 16) eL_32 (by rw [hc16]; decide) rfl (law_case_16 hcs hin q1 q2 (back M2 q3))
    by_cases hc17 : op = 17
    · obtain ⟨r, M1, M2, q1, q2, q3⟩ := s17
      exact L_tsIn (k0 := 17) eL_32 (by rw [hc17]; decide) rfl (law_case_17 hcs hin q1 q2 (back M2 q3))
    by_cases hc18 : op = 18
    · obtain ⟨r, M1, M2, q1, q2, q3⟩ := s18 _
      exact L_tsIn (k0 := 18) eL_32 (by rw [hc18]; decide) rfl (law_case_18 hcs hin q1 q2 (back M2 q3))
    by_cases hc19 : op = 19
    · obtain ⟨r, M1, M2, q1, q2, q3⟩ := s19 _ _ _ _
      exact L_tsIn (k0 := 19) eL_32 (by rw [hc19]; decide) rfl (law_case_19 hcs hin q1 q2 (back M2 q3))
    by_cases hc20 : op = 20
    · obtain ⟨r, M1, M2, q1, q2, q3⟩ := s20 _ _ _ _
      exact L_tsIn (k0 := 20) eL_32 (by rw [hc20]; decide) rfl (law_case_20 hcs hin q1 q2 (back M2 q3))
    by_cases hc21 : op = 21
    · obtain ⟨r, M1, M2, q1, q2, q3⟩ := s21 _ _ _
      exact L_tsIn (k0 := 21) eL_32 (by rw [hc21]; decide) rfl (law_case_21 hcs hin q1 q2 (back M2 q3))
    by_cases hc22 : op = 22
    · obtain ⟨r, M1, M2, q1, q2, q3⟩ := s22 _
      exact L_tsIn (k0 := 22) eL_32 (by rw [hc22]; decide) rfl (law_case_22 hcs hin q1 q2 (back M2 q3))
    by_cases hc23 : op = 23
    · obtain ⟨r, M1, M2, q1, q2, q3⟩ := s23 _ _ _
      exact L_tsIn (k0 := 23) eL_32 (by rw [hc23]; decide) rfl (law_case_23 hcs hin q1 q2 (back M2 q3))
    by_cases hc24 : op = 24
    · obtain ⟨r, M1, M2, q1, q2, q3⟩ := s24 _
      exact L_tsIn (k0 := 24) eL_32 (by rw [hc24]; decide) rfl (law_case_24 hcs hin q1 q2 (back M2 q3))
    by_cases hc25 : op = 25
    · obtain ⟨r, M1, M2, q1, q2, q3⟩ := s25 _ _ _
      exact L_tsIn (k0 := 25) eL_32 (by rw [hc25]; decide) rfl (law_case_25 hcs hin q1 q2 (back M2 q3))
    by_cases hc26 : op = 26
    · obtain ⟨r, M1, M2, q1, q2, q3⟩ := s26 _ _
      exact L_tsIn (k0 := 26) eL_32 (by rw [hc26]; decide) rfl (law_case_26 hcs hin q1 q2 (back M2 q3))
    by_cases hc27 : op = 27
    · obtain ⟨r, M1, M2, q1, q2, q3⟩ := s27 _ _
      exact L_tsIn (k0 := 27) eL_32 (by rw [hc27]; decide) rfl (law_case_27 hcs hin q1 q2 (back M2 q3))
    by_cases hc28 : op = 28
    · obtain ⟨r, M1, M2, q1, q2, q3⟩ := s28 _
      exact L_tsIn (k0 := 28) eL_32 (by rw [hc28]; decide) rfl (law_case_28 hcs hin q1 q2 (back M2 q3))
    by_cases hc29 : op = 29
    · obtain ⟨r, M1, M2, q1, q2, q3⟩ := s29 _ _
      exact L_tsIn (k0 := 29) eL_32 (by rw [hc29]; decide) rfl (law_case_29 hcs hin q1 q2 (back M2 q3))
    by_cases hc30 : op = 30
    · obtain ⟨r, M1, M2, q1, q2, q3⟩ := s30 _
      exact L_tsIn (k0 := 30) eL_32 (by rw [hc30]; decide) rfl (law_case_30 hcs hin q1 q2 (back M2 q3))
    by_cases hc31 : op = 31
    · obtain ⟨r, M1, M2, q1, q2, q3⟩ := s31 _
      exact L_tsIn (k0 := 31) eL_32 (by rw [hc31]; decide) rfl (law_case_31 hcs hin q1 q2 (back M2 q3))
    by_cases hc32 : op = 32
    · obtain ⟨r, M1, M2, q1, q2, q3⟩ := s32 _
      exact L_tsIn (k0 := 32) eL_32 (by rw [hc32]; decide) rfl (law_case_32 hcs hin q1 q2 (back M2 q3))
    by_cases hc33 : op = 33
    · obtain ⟨r, M1, M2, q1, q2, q3⟩ := s33 _
      exact L_tsIn (k0 := 33) eL_32 (by rw [hc33]; decide) rfl (law_case_33 hcs hin q1 q2 (back M2 q3))
    refine L_tsOut eL_32 (tsw_out (fun k h1 h2 => ?_)) (back M hI)
    rcases (show k = 0 ∨ k = 1 ∨ k = 2 ∨ k = 3 ∨ k = 4 ∨ k = 5 ∨ k = 6 ∨ k = 7 ∨ k = 8 ∨ k = 9 ∨ k = 10 ∨ k = 11 ∨ k = 12 ∨ k = 13 ∨ k = 14 ∨ k = 15 ∨ k = 16 ∨ k = 17 ∨ k = 18 ∨ k = 19 ∨ k = 20 ∨ k = 21 ∨ k = 22 ∨ k = 23 ∨ k = 24 ∨ k = 25 ∨ k = 26 ∨ k = 27 ∨ k = 28 ∨ k = 29 ∨ k = 30 ∨ k = 31 ∨ k = 32 ∨ k = 33 by omega) with rfl | rfl | rfl | rfl | rfl | rfl | rfl | rfl | rfl | rfl | rfl | rfl | rfl | rfl | rfl | rfl | rfl | rfl | rfl | rfl | rfl | rfl | rfl | rfl | rfl | rfl | rfl | rfl | rfl | rfl | rfl | rfl | rfl | rfl
    · exact hc0
    · exact hc1
    · exact hc2
    · exact hc3
    · exact hc4
    · exact hc5
    · exact hc6
    · exact hc7
    · exact hc8
    · exact hc9
    · exact hc10
    · exact hc11
    · exact hc12
    · exact hc13
    · exact hc14
    · exact hc15
    · exact hc16
    · exact hc17
    · exact hc18
    · exact hc19
    · exact hc20
    · exact hc21
    · exact hc22
    · exact hc23
    · exact hc24
    · exact hc25
    · exact hc26
    · exact hc27
    · exact hc28
    · exact hc29
    · exact hc30
    · exact hc31
    · exact hc32
    · exact hc33
