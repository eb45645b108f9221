/-! THE WORDS that the rows take, each by its place among the tables -/
set_option maxRecDepth 100000 in
theorem lay_X0 : ∀ w ∈ u_ws RX0 TX0 4, w ∈ gd := by
  show ∀ w ∈ [u_lay RX0 TX0 0, u_lay RX0 TX0 1, u_lay RX0 TX0 2, u_lay RX0 TX0 3], w ∈ gd
  exact List.forall_mem_cons.mpr ⟨gd_t 266 (by decide +kernel), List.forall_mem_cons.mpr ⟨gd_t 268 (by decide +kernel), List.forall_mem_cons.mpr ⟨gd_t 270 (by decide +kernel), List.forall_mem_cons.mpr ⟨gd_t 272 (by decide +kernel), fun _ h => absurd h List.not_mem_nil⟩⟩⟩⟩
set_option maxRecDepth 100000 in
theorem lay_X1 : ∀ w ∈ u_ws RX1 TX1 4, w ∈ gd := by
  show ∀ w ∈ [u_lay RX1 TX1 0, u_lay RX1 TX1 1, u_lay RX1 TX1 2, u_lay RX1 TX1 3], w ∈ gd
  exact List.forall_mem_cons.mpr ⟨gd_t 37 (by decide +kernel), List.forall_mem_cons.mpr ⟨gd_t 39 (by decide +kernel), List.forall_mem_cons.mpr ⟨gd_t 41 (by decide +kernel), List.forall_mem_cons.mpr ⟨gd_t 43 (by decide +kernel), fun _ h => absurd h List.not_mem_nil⟩⟩⟩⟩
set_option maxRecDepth 100000 in
theorem lay_X2 : ∀ w ∈ u_ws RX2 TX2 5, w ∈ gd := by
  show ∀ w ∈ [u_lay RX2 TX2 0, u_lay RX2 TX2 1, u_lay RX2 TX2 2, u_lay RX2 TX2 3, u_lay RX2 TX2 4], w ∈ gd
  exact List.forall_mem_cons.mpr ⟨gd_t 113 (by decide +kernel), List.forall_mem_cons.mpr ⟨gd_t 115 (by decide +kernel), List.forall_mem_cons.mpr ⟨gd_t 117 (by decide +kernel), List.forall_mem_cons.mpr ⟨gd_t 119 (by decide +kernel), List.forall_mem_cons.mpr ⟨gd_t 121 (by decide +kernel), fun _ h => absurd h List.not_mem_nil⟩⟩⟩⟩⟩
set_option maxRecDepth 100000 in
theorem lay_X3 : ∀ w ∈ u_ws RX3 TX3 3, w ∈ gd := by
  show ∀ w ∈ [u_lay RX3 TX3 0, u_lay RX3 TX3 1, u_lay RX3 TX3 2], w ∈ gd
  exact List.forall_mem_cons.mpr ⟨gd_t 249 (by decide +kernel), List.forall_mem_cons.mpr ⟨gd_t 251 (by decide +kernel), List.forall_mem_cons.mpr ⟨gd_t 253 (by decide +kernel), fun _ h => absurd h List.not_mem_nil⟩⟩⟩
set_option maxRecDepth 100000 in
theorem lay_X4 : ∀ w ∈ u_ws RX4 TX4 7, w ∈ gd := by
  show ∀ w ∈ [u_lay RX4 TX4 0, u_lay RX4 TX4 1, u_lay RX4 TX4 2, u_lay RX4 TX4 3, u_lay RX4 TX4 4, u_lay RX4 TX4 5, u_lay RX4 TX4 6], w ∈ gd
  exact List.forall_mem_cons.mpr ⟨gd_t 138 (by decide +kernel), List.forall_mem_cons.mpr ⟨gd_t 140 (by decide +kernel), List.forall_mem_cons.mpr ⟨gd_t 142 (by decide +kernel), List.forall_mem_cons.mpr ⟨gd_t 144 (by decide +kernel), List.forall_mem_cons.mpr ⟨gd_t 146 (by decide +kernel), List.forall_mem_cons.mpr ⟨gd_t 148 (by decide +kernel), List.forall_mem_cons.mpr ⟨gd_t 150 (by decide +kernel), fun _ h => absurd h List.not_mem_nil⟩⟩⟩⟩⟩⟩⟩
set_option maxRecDepth 100000 in
theorem lay_X5 : ∀ w ∈ u_ws RX5 TX5 5, w ∈ gd := by
  show ∀ w ∈ [u_lay RX5 TX5 0, u_lay RX5 TX5 1, u_lay RX5 TX5 2, u_lay RX5 TX5 3, u_lay RX5 TX5 4], w ∈ gd
  exact List.forall_mem_cons.mpr ⟨gd_t 164 (by decide +kernel), List.forall_mem_cons.mpr ⟨gd_t 166 (by decide +kernel), List.forall_mem_cons.mpr ⟨gd_t 168 (by decide +kernel), List.forall_mem_cons.mpr ⟨gd_t 170 (by decide +kernel), List.forall_mem_cons.mpr ⟨gd_t 172 (by decide +kernel), fun _ h => absurd h List.not_mem_nil⟩⟩⟩⟩⟩
set_option maxRecDepth 100000 in
theorem lay_X6 : ∀ w ∈ u_ws RX6 TX6 6, w ∈ gd := by
  show ∀ w ∈ [u_lay RX6 TX6 0, u_lay RX6 TX6 1, u_lay RX6 TX6 2, u_lay RX6 TX6 3, u_lay RX6 TX6 4, u_lay RX6 TX6 5], w ∈ gd
  exact List.forall_mem_cons.mpr ⟨gd_t 290 (by decide +kernel), List.forall_mem_cons.mpr ⟨gd_t 292 (by decide +kernel), List.forall_mem_cons.mpr ⟨gd_t 294 (by decide +kernel), List.forall_mem_cons.mpr ⟨gd_t 296 (by decide +kernel), List.forall_mem_cons.mpr ⟨gd_t 298 (by decide +kernel), List.forall_mem_cons.mpr ⟨gd_t 300 (by decide +kernel), fun _ h => absurd h List.not_mem_nil⟩⟩⟩⟩⟩⟩
set_option maxRecDepth 100000 in
theorem lay_X7 : ∀ w ∈ u_ws RX7 TX7 5, w ∈ gd := by
  show ∀ w ∈ [u_lay RX7 TX7 0, u_lay RX7 TX7 1, u_lay RX7 TX7 2, u_lay RX7 TX7 3, u_lay RX7 TX7 4], w ∈ gd
  exact List.forall_mem_cons.mpr ⟨gd_t 229 (by decide +kernel), List.forall_mem_cons.mpr ⟨gd_t 231 (by decide +kernel), List.forall_mem_cons.mpr ⟨gd_t 233 (by decide +kernel), List.forall_mem_cons.mpr ⟨gd_t 235 (by decide +kernel), List.forall_mem_cons.mpr ⟨gd_t 237 (by decide +kernel), fun _ h => absurd h List.not_mem_nil⟩⟩⟩⟩⟩
set_option maxRecDepth 100000 in
theorem lay_X8 : ∀ w ∈ u_ws RX8 TX8 16, w ∈ gd := by
  show ∀ w ∈ [u_lay RX8 TX8 0, u_lay RX8 TX8 1, u_lay RX8 TX8 2, u_lay RX8 TX8 3, u_lay RX8 TX8 4, u_lay RX8 TX8 5, u_lay RX8 TX8 6, u_lay RX8 TX8 7, u_lay RX8 TX8 8, u_lay RX8 TX8 9, u_lay RX8 TX8 10, u_lay RX8 TX8 11, u_lay RX8 TX8 12, u_lay RX8 TX8 13, u_lay RX8 TX8 14, u_lay RX8 TX8 15], w ∈ gd
  exact List.forall_mem_cons.mpr ⟨gd_t 69 (by decide +kernel), List.forall_mem_cons.mpr ⟨gd_t 71 (by decide +kernel), List.forall_mem_cons.mpr ⟨gd_t 73 (by decide +kernel), List.forall_mem_cons.mpr ⟨gd_t 75 (by decide +kernel), List.forall_mem_cons.mpr ⟨gd_t 77 (by decide +kernel), List.forall_mem_cons.mpr ⟨gd_t 79 (by decide +kernel), List.forall_mem_cons.mpr ⟨gd_t 81 (by decide +kernel), List.forall_mem_cons.mpr ⟨gd_t 83 (by decide +kernel), List.forall_mem_cons.mpr ⟨gd_t 85 (by decide +kernel), List.forall_mem_cons.mpr ⟨gd_t 87 (by decide +kernel), List.forall_mem_cons.mpr ⟨gd_t 89 (by decide +kernel), List.forall_mem_cons.mpr ⟨gd_t 91 (by decide +kernel), List.forall_mem_cons.mpr ⟨gd_t 93 (by decide +kernel), List.forall_mem_cons.mpr ⟨gd_t 95 (by decide +kernel), List.forall_mem_cons.mpr ⟨gd_t 97 (by decide +kernel), List.forall_mem_cons.mpr ⟨gd_t 99 (by decide +kernel), fun _ h => absurd h List.not_mem_nil⟩⟩⟩⟩⟩⟩⟩⟩⟩⟩⟩⟩⟩⟩⟩⟩
set_option maxRecDepth 100000 in
theorem lay_X9 : ∀ w ∈ u_ws RX9 TX9 11, w ∈ gd := by
  show ∀ w ∈ [u_lay RX9 TX9 0, u_lay RX9 TX9 1, u_lay RX9 TX9 2, u_lay RX9 TX9 3, u_lay RX9 TX9 4, u_lay RX9 TX9 5, u_lay RX9 TX9 6, u_lay RX9 TX9 7, u_lay RX9 TX9 8, u_lay RX9 TX9 9, u_lay RX9 TX9 10], w ∈ gd
  exact List.forall_mem_cons.mpr ⟨gd_t 195 (by decide +kernel), List.forall_mem_cons.mpr ⟨gd_t 197 (by decide +kernel), List.forall_mem_cons.mpr ⟨gd_t 199 (by decide +kernel), List.forall_mem_cons.mpr ⟨gd_t 201 (by decide +kernel), List.forall_mem_cons.mpr ⟨gd_t 203 (by decide +kernel), List.forall_mem_cons.mpr ⟨gd_t 205 (by decide +kernel), List.forall_mem_cons.mpr ⟨gd_t 207 (by decide +kernel), List.forall_mem_cons.mpr ⟨gd_t 209 (by decide +kernel), List.forall_mem_cons.mpr ⟨gd_t 211 (by decide +kernel), List.forall_mem_cons.mpr ⟨gd_t 213 (by decide +kernel), List.forall_mem_cons.mpr ⟨gd_t 215 (by decide +kernel), fun _ h => absurd h List.not_mem_nil⟩⟩⟩⟩⟩⟩⟩⟩⟩⟩⟩
set_option maxRecDepth 100000 in
theorem lay_X10 : ∀ w ∈ u_ws RX10 TX10 14, w ∈ gd := by
  show ∀ w ∈ [u_lay RX10 TX10 0, u_lay RX10 TX10 1, u_lay RX10 TX10 2, u_lay RX10 TX10 3, u_lay RX10 TX10 4, u_lay RX10 TX10 5, u_lay RX10 TX10 6, u_lay RX10 TX10 7, u_lay RX10 TX10 8, u_lay RX10 TX10 9, u_lay RX10 TX10 10, u_lay RX10 TX10 11, u_lay RX10 TX10 12, u_lay RX10 TX10 13], w ∈ gd
  exact List.forall_mem_cons.mpr ⟨gd_t 317 (by decide +kernel), List.forall_mem_cons.mpr ⟨gd_t 319 (by decide +kernel), List.forall_mem_cons.mpr ⟨gd_t 321 (by decide +kernel), List.forall_mem_cons.mpr ⟨gd_t 323 (by decide +kernel), List.forall_mem_cons.mpr ⟨gd_t 325 (by decide +kernel), List.forall_mem_cons.mpr ⟨gd_t 327 (by decide +kernel), List.forall_mem_cons.mpr ⟨gd_t 329 (by decide +kernel), List.forall_mem_cons.mpr ⟨gd_t 331 (by decide +kernel), List.forall_mem_cons.mpr ⟨gd_t 333 (by decide +kernel), List.forall_mem_cons.mpr ⟨gd_t 335 (by decide +kernel), List.forall_mem_cons.mpr ⟨gd_t 337 (by decide +kernel), List.forall_mem_cons.mpr ⟨gd_t 339 (by decide +kernel), List.forall_mem_cons.mpr ⟨gd_t 341 (by decide +kernel), List.forall_mem_cons.mpr ⟨gd_t 343 (by decide +kernel), fun _ h => absurd h List.not_mem_nil⟩⟩⟩⟩⟩⟩⟩⟩⟩⟩⟩⟩⟩⟩
set_option maxRecDepth 100000 in
theorem lay_X11 : ∀ w ∈ u_ws RX11 TX11 49, w ∈ gd := by
  show ∀ w ∈ [u_lay RX11 TX11 0, u_lay RX11 TX11 1, u_lay RX11 TX11 2, u_lay RX11 TX11 3, u_lay RX11 TX11 4, u_lay RX11 TX11 5, u_lay RX11 TX11 6, u_lay RX11 TX11 7, u_lay RX11 TX11 8, u_lay RX11 TX11 9, u_lay RX11 TX11 10, u_lay RX11 TX11 11, u_lay RX11 TX11 12, u_lay RX11 TX11 13, u_lay RX11 TX11 14, u_lay RX11 TX11 15, u_lay RX11 TX11 16, u_lay RX11 TX11 17, u_lay RX11 TX11 18, u_lay RX11 TX11 19, u_lay RX11 TX11 20, u_lay RX11 TX11 21, u_lay RX11 TX11 22, u_lay RX11 TX11 23, u_lay RX11 TX11 24, u_lay RX11 TX11 25, u_lay RX11 TX11 26, u_lay RX11 TX11 27, u_lay RX11 TX11 28, u_lay RX11 TX11 29, u_lay RX11 TX11 30, u_lay RX11 TX11 31, u_lay RX11 TX11 32, u_lay RX11 TX11 33, u_lay RX11 TX11 34, u_lay RX11 TX11 35, u_lay RX11 TX11 36, u_lay RX11 TX11 37, u_lay RX11 TX11 38, u_lay RX11 TX11 39, u_lay RX11 TX11 40, u_lay RX11 TX11 41, u_lay RX11 TX11 42, u_lay RX11 TX11 43, u_lay RX11 TX11 44, u_lay RX11 TX11 45, u_lay RX11 TX11 46, u_lay RX11 TX11 47, u_lay RX11 TX11 48], w ∈ gd
  exact List.forall_mem_cons.mpr ⟨gd_t 1063 (by decide +kernel), List.forall_mem_cons.mpr ⟨gd_t 1065 (by decide +kernel), List.forall_mem_cons.mpr ⟨gd_t 1067 (by decide +kernel), List.forall_mem_cons.mpr ⟨gd_t 1069 (by decide +kernel), List.forall_mem_cons.mpr ⟨gd_t 1071 (by decide +kernel), List.forall_mem_cons.mpr ⟨gd_t 1073 (by decide +kernel), List.forall_mem_cons.mpr ⟨gd_t 1075 (by decide +kernel), List.forall_mem_cons.mpr ⟨gd_t 1077 (by decide +kernel), List.forall_mem_cons.mpr ⟨gd_t 1079 (by decide +kernel), List.forall_mem_cons.mpr ⟨gd_t 1081 (by decide +kernel), List.forall_mem_cons.mpr ⟨gd_t 1083 (by decide +kernel), List.forall_mem_cons.mpr ⟨gd_t 1085 (by decide +kernel), List.forall_mem_cons.mpr ⟨gd_t 1087 (by decide +kernel), List.forall_mem_cons.mpr ⟨gd_t 1089 (by decide +kernel), List.forall_mem_cons.mpr ⟨gd_t 1091 (by decide +kernel), List.forall_mem_cons.mpr ⟨gd_t 1093 (by decide +kernel), List.forall_mem_cons.mpr ⟨gd_t 1095 (by decide +kernel), List.forall_mem_cons.mpr ⟨gd_t 1097 (by decide +kernel), List.forall_mem_cons.mpr ⟨gd_t 1099 (by decide +kernel), List.forall_mem_cons.mpr ⟨gd_t 1101 (by decide +kernel), List.forall_mem_cons.mpr ⟨gd_t 1103 (by decide +kernel), List.forall_mem_cons.mpr ⟨gd_t 1105 (by decide +kernel), List.forall_mem_cons.mpr ⟨gd_t 1107 (by decide +kernel), List.forall_mem_cons.mpr ⟨gd_t 1109 (by decide +kernel), List.forall_mem_cons.mpr ⟨gd_t 1111 (by decide +kernel), List.forall_mem_cons.mpr ⟨gd_t 1113 (by decide +kernel), List.forall_mem_cons.mpr ⟨gd_t 1115 (by decide +kernel), List.forall_mem_cons.mpr ⟨gd_t 1117 (by decide +kernel), List.forall_mem_cons.mpr ⟨gd_t 1119 (by decide +kernel), List.forall_mem_cons.mpr ⟨gd_t 1121 (by decide +kernel), List.forall_mem_cons.mpr ⟨gd_t 1123 (by decide +kernel), List.forall_mem_cons.mpr ⟨gd_t 1125 (by decide +kernel), List.forall_mem_cons.mpr ⟨gd_t 1127 (by decide +kernel), List.forall_mem_cons.mpr ⟨gd_t 1129 (by decide +kernel), List.forall_mem_cons.mpr ⟨gd_t 1131 (by decide +kernel), List.forall_mem_cons.mpr ⟨gd_t 1133 (by decide +kernel), List.forall_mem_cons.mpr ⟨gd_t 1135 (by decide +kernel), List.forall_mem_cons.mpr ⟨gd_t 1137 (by decide +kernel), List.forall_mem_cons.mpr ⟨gd_t 1139 (by decide +kernel), List.forall_mem_cons.mpr ⟨gd_t 1141 (by decide +kernel), List.forall_mem_cons.mpr ⟨gd_t 1143 (by decide +kernel), List.forall_mem_cons.mpr ⟨gd_t 1145 (by decide +kernel), List.forall_mem_cons.mpr ⟨gd_t 1147 (by decide +kernel), List.forall_mem_cons.mpr ⟨gd_t 1149 (by decide +kernel), List.forall_mem_cons.mpr ⟨gd_t 1151 (by decide +kernel), List.forall_mem_cons.mpr ⟨gd_t 1153 (by decide +kernel), List.forall_mem_cons.mpr ⟨gd_t 1155 (by decide +kernel), List.forall_mem_cons.mpr ⟨gd_t 1157 (by decide +kernel), List.forall_mem_cons.mpr ⟨gd_t 1159 (by decide +kernel), fun _ h => absurd h List.not_mem_nil⟩⟩⟩⟩⟩⟩⟩⟩⟩⟩⟩⟩⟩⟩⟩⟩⟩⟩⟩⟩⟩⟩⟩⟩⟩⟩⟩⟩⟩⟩⟩⟩⟩⟩⟩⟩⟩⟩⟩⟩⟩⟩⟩⟩⟩⟩⟩⟩⟩
set_option maxRecDepth 100000 in
theorem fw_X1_11 : FW RX1 11 1 0 := ⟨RX1, TX1, 4, rfl, by decide, gd_t 33 ⟨rfl, rfl⟩, lay_X1⟩
set_option maxRecDepth 100000 in
theorem fw_X1_26 : FW RX1 26 1 1 := ⟨RX1, TX1, 4, rfl, by decide, gd_t 34 ⟨rfl, rfl⟩, lay_X1⟩
set_option maxRecDepth 100000 in
theorem pw_X1_26 : PW RX1 26 1 1 := ⟨RX1, TX1, 4, tyX1, rfl, by decide, gd_t 34 ⟨rfl, rfl⟩, lay_X1, tyX1_ok, nmX1, rfl, by decide +kernel⟩
set_option maxRecDepth 100000 in
theorem fw_X1_15 : FW RX1 15 1 2 := ⟨RX1, TX1, 4, rfl, by decide, gd_t 35 ⟨rfl, rfl⟩, lay_X1⟩
set_option maxRecDepth 100000 in
theorem pw_X1_15 : PW RX1 15 1 2 := ⟨RX1, TX1, 4, tyX1, rfl, by decide, gd_t 35 ⟨rfl, rfl⟩, lay_X1, tyX1_ok, nmX1, rfl, by decide +kernel⟩
set_option maxRecDepth 100000 in
theorem fw_X1_19 : FW RX1 19 1 3 := ⟨RX1, TX1, 4, rfl, by decide, gd_t 36 ⟨rfl, rfl⟩, lay_X1⟩
set_option maxRecDepth 100000 in
theorem pw_X1_19 : PW RX1 19 1 3 := ⟨RX1, TX1, 4, tyX1, rfl, by decide, gd_t 36 ⟨rfl, rfl⟩, lay_X1, tyX1_ok, nmX1, rfl, by decide +kernel⟩
set_option maxRecDepth 100000 in
theorem fw_X8_33 : FW RX8 33 8 0 := ⟨RX8, TX8, 16, rfl, by decide, gd_t 53 ⟨rfl, rfl⟩, lay_X8⟩
set_option maxRecDepth 100000 in
theorem fw_X8_9 : FW RX8 9 8 1 := ⟨RX8, TX8, 16, rfl, by decide, gd_t 54 ⟨rfl, rfl⟩, lay_X8⟩
set_option maxRecDepth 100000 in
theorem fw_X8_15 : FW RX8 15 8 2 := ⟨RX8, TX8, 16, rfl, by decide, gd_t 55 ⟨rfl, rfl⟩, lay_X8⟩
set_option maxRecDepth 100000 in
theorem fw_X8_37 : FW RX8 37 8 3 := ⟨RX8, TX8, 16, rfl, by decide, gd_t 56 ⟨rfl, rfl⟩, lay_X8⟩
set_option maxRecDepth 100000 in
theorem pw_X8_37 : PW RX8 37 8 3 := ⟨RX8, TX8, 16, tyX8, rfl, by decide, gd_t 56 ⟨rfl, rfl⟩, lay_X8, tyX8_ok, nmX8, rfl, by decide +kernel⟩
set_option maxRecDepth 100000 in
theorem fw_X8_18 : FW RX8 18 8 4 := ⟨RX8, TX8, 16, rfl, by decide, gd_t 57 ⟨rfl, rfl⟩, lay_X8⟩
set_option maxRecDepth 100000 in
theorem fw_X8_21 : FW RX8 21 8 5 := ⟨RX8, TX8, 16, rfl, by decide, gd_t 58 ⟨rfl, rfl⟩, lay_X8⟩
set_option maxRecDepth 100000 in
theorem fw_X8_24 : FW RX8 24 8 6 := ⟨RX8, TX8, 16, rfl, by decide, gd_t 59 ⟨rfl, rfl⟩, lay_X8⟩
set_option maxRecDepth 100000 in
theorem fw_X8_27 : FW RX8 27 8 7 := ⟨RX8, TX8, 16, rfl, by decide, gd_t 60 ⟨rfl, rfl⟩, lay_X8⟩
set_option maxRecDepth 100000 in
theorem fw_X8_41 : FW RX8 41 8 8 := ⟨RX8, TX8, 16, rfl, by decide, gd_t 61 ⟨rfl, rfl⟩, lay_X8⟩
set_option maxRecDepth 100000 in
theorem pw_X8_41 : PW RX8 41 8 8 := ⟨RX8, TX8, 16, tyX8, rfl, by decide, gd_t 61 ⟨rfl, rfl⟩, lay_X8, tyX8_ok, nmX8, rfl, by decide +kernel⟩
set_option maxRecDepth 100000 in
theorem fw_X8_30 : FW RX8 30 8 9 := ⟨RX8, TX8, 16, rfl, by decide, gd_t 62 ⟨rfl, rfl⟩, lay_X8⟩
set_option maxRecDepth 100000 in
theorem fw_X8_72 : FW RX8 72 8 10 := ⟨RX8, TX8, 16, rfl, by decide, gd_t 63 ⟨rfl, rfl⟩, lay_X8⟩
set_option maxRecDepth 100000 in
theorem pw_X8_72 : PW RX8 72 8 10 := ⟨RX8, TX8, 16, tyX8, rfl, by decide, gd_t 63 ⟨rfl, rfl⟩, lay_X8, tyX8_ok, nmX8, rfl, by decide +kernel⟩
set_option maxRecDepth 100000 in
theorem fw_X8_75 : FW RX8 75 8 11 := ⟨RX8, TX8, 16, rfl, by decide, gd_t 64 ⟨rfl, rfl⟩, lay_X8⟩
set_option maxRecDepth 100000 in
theorem pw_X8_75 : PW RX8 75 8 11 := ⟨RX8, TX8, 16, tyX8, rfl, by decide, gd_t 64 ⟨rfl, rfl⟩, lay_X8, tyX8_ok, nmX8, rfl, by decide +kernel⟩
set_option maxRecDepth 100000 in
theorem fw_X8_61 : FW RX8 61 8 12 := ⟨RX8, TX8, 16, rfl, by decide, gd_t 65 ⟨rfl, rfl⟩, lay_X8⟩
set_option maxRecDepth 100000 in
theorem pw_X8_61 : PW RX8 61 8 12 := ⟨RX8, TX8, 16, tyX8, rfl, by decide, gd_t 65 ⟨rfl, rfl⟩, lay_X8, tyX8_ok, nmX8, rfl, by decide +kernel⟩
set_option maxRecDepth 100000 in
theorem fw_X8_69 : FW RX8 69 8 13 := ⟨RX8, TX8, 16, rfl, by decide, gd_t 66 ⟨rfl, rfl⟩, lay_X8⟩
set_option maxRecDepth 100000 in
theorem pw_X8_69 : PW RX8 69 8 13 := ⟨RX8, TX8, 16, tyX8, rfl, by decide, gd_t 66 ⟨rfl, rfl⟩, lay_X8, tyX8_ok, nmX8, rfl, by decide +kernel⟩
set_option maxRecDepth 100000 in
theorem fw_X8_78 : FW RX8 78 8 14 := ⟨RX8, TX8, 16, rfl, by decide, gd_t 67 ⟨rfl, rfl⟩, lay_X8⟩
set_option maxRecDepth 100000 in
theorem pw_X8_78 : PW RX8 78 8 14 := ⟨RX8, TX8, 16, tyX8, rfl, by decide, gd_t 67 ⟨rfl, rfl⟩, lay_X8, tyX8_ok, nmX8, rfl, by decide +kernel⟩
set_option maxRecDepth 100000 in
theorem fw_X8_81 : FW RX8 81 8 15 := ⟨RX8, TX8, 16, rfl, by decide, gd_t 68 ⟨rfl, rfl⟩, lay_X8⟩
set_option maxRecDepth 100000 in
theorem pw_X8_81 : PW RX8 81 8 15 := ⟨RX8, TX8, 16, tyX8, rfl, by decide, gd_t 68 ⟨rfl, rfl⟩, lay_X8, tyX8_ok, nmX8, rfl, by decide +kernel⟩
set_option maxRecDepth 100000 in
theorem fw_X2_9 : FW RX2 9 2 0 := ⟨RX2, TX2, 5, rfl, by decide, gd_t 108 ⟨rfl, rfl⟩, lay_X2⟩
set_option maxRecDepth 100000 in
theorem fw_X2_15 : FW RX2 15 2 1 := ⟨RX2, TX2, 5, rfl, by decide, gd_t 109 ⟨rfl, rfl⟩, lay_X2⟩
set_option maxRecDepth 100000 in
theorem fw_X2_18 : FW RX2 18 2 2 := ⟨RX2, TX2, 5, rfl, by decide, gd_t 110 ⟨rfl, rfl⟩, lay_X2⟩
set_option maxRecDepth 100000 in
theorem fw_X2_21 : FW RX2 21 2 3 := ⟨RX2, TX2, 5, rfl, by decide, gd_t 111 ⟨rfl, rfl⟩, lay_X2⟩
set_option maxRecDepth 100000 in
theorem fw_X2_25 : FW RX2 25 2 4 := ⟨RX2, TX2, 5, rfl, by decide, gd_t 112 ⟨rfl, rfl⟩, lay_X2⟩
set_option maxRecDepth 100000 in
theorem pw_X2_25 : PW RX2 25 2 4 := ⟨RX2, TX2, 5, tyX2, rfl, by decide, gd_t 112 ⟨rfl, rfl⟩, lay_X2, tyX2_ok, nmX2, rfl, by decide +kernel⟩
set_option maxRecDepth 100000 in
theorem fw_X4_26 : FW RX4 26 4 0 := ⟨RX4, TX4, 7, rfl, by decide, gd_t 131 ⟨rfl, rfl⟩, lay_X4⟩
set_option maxRecDepth 100000 in
theorem fw_X4_30 : FW RX4 30 4 1 := ⟨RX4, TX4, 7, rfl, by decide, gd_t 132 ⟨rfl, rfl⟩, lay_X4⟩
set_option maxRecDepth 100000 in
theorem fw_X4_11 : FW RX4 11 4 2 := ⟨RX4, TX4, 7, rfl, by decide, gd_t 133 ⟨rfl, rfl⟩, lay_X4⟩
set_option maxRecDepth 100000 in
theorem fw_X4_15 : FW RX4 15 4 3 := ⟨RX4, TX4, 7, rfl, by decide, gd_t 134 ⟨rfl, rfl⟩, lay_X4⟩
set_option maxRecDepth 100000 in
theorem fw_X4_18 : FW RX4 18 4 4 := ⟨RX4, TX4, 7, rfl, by decide, gd_t 135 ⟨rfl, rfl⟩, lay_X4⟩
set_option maxRecDepth 100000 in
theorem fw_X4_23 : FW RX4 23 4 5 := ⟨RX4, TX4, 7, rfl, by decide, gd_t 136 ⟨rfl, rfl⟩, lay_X4⟩
set_option maxRecDepth 100000 in
theorem fw_X4_34 : FW RX4 34 4 6 := ⟨RX4, TX4, 7, rfl, by decide, gd_t 137 ⟨rfl, rfl⟩, lay_X4⟩
set_option maxRecDepth 100000 in
theorem pw_X4_34 : PW RX4 34 4 6 := ⟨RX4, TX4, 7, tyX4, rfl, by decide, gd_t 137 ⟨rfl, rfl⟩, lay_X4, tyX4_ok, nmX4, rfl, by decide +kernel⟩
set_option maxRecDepth 100000 in
theorem fw_X5_9 : FW RX5 9 5 0 := ⟨RX5, TX5, 5, rfl, by decide, gd_t 159 ⟨rfl, rfl⟩, lay_X5⟩
set_option maxRecDepth 100000 in
theorem fw_X5_15 : FW RX5 15 5 1 := ⟨RX5, TX5, 5, rfl, by decide, gd_t 160 ⟨rfl, rfl⟩, lay_X5⟩
set_option maxRecDepth 100000 in
theorem fw_X5_18 : FW RX5 18 5 2 := ⟨RX5, TX5, 5, rfl, by decide, gd_t 161 ⟨rfl, rfl⟩, lay_X5⟩
set_option maxRecDepth 100000 in
theorem fw_X5_21 : FW RX5 21 5 3 := ⟨RX5, TX5, 5, rfl, by decide, gd_t 162 ⟨rfl, rfl⟩, lay_X5⟩
set_option maxRecDepth 100000 in
theorem pw_X5_21 : PW RX5 21 5 3 := ⟨RX5, TX5, 5, tyX5, rfl, by decide, gd_t 162 ⟨rfl, rfl⟩, lay_X5, tyX5_ok, nmX5, rfl, by decide +kernel⟩
set_option maxRecDepth 100000 in
theorem fw_X5_33 : FW RX5 33 5 4 := ⟨RX5, TX5, 5, rfl, by decide, gd_t 163 ⟨rfl, rfl⟩, lay_X5⟩
set_option maxRecDepth 100000 in
theorem pw_X5_33 : PW RX5 33 5 4 := ⟨RX5, TX5, 5, tyX5, rfl, by decide, gd_t 163 ⟨rfl, rfl⟩, lay_X5, tyX5_ok, nmX5, rfl, by decide +kernel⟩
set_option maxRecDepth 100000 in
theorem fw_X9_37 : FW RX9 37 9 0 := ⟨RX9, TX9, 11, rfl, by decide, gd_t 184 ⟨rfl, rfl⟩, lay_X9⟩
set_option maxRecDepth 100000 in
theorem fw_X9_41 : FW RX9 41 9 1 := ⟨RX9, TX9, 11, rfl, by decide, gd_t 185 ⟨rfl, rfl⟩, lay_X9⟩
set_option maxRecDepth 100000 in
theorem fw_X9_11 : FW RX9 11 9 2 := ⟨RX9, TX9, 11, rfl, by decide, gd_t 186 ⟨rfl, rfl⟩, lay_X9⟩
set_option maxRecDepth 100000 in
theorem fw_X9_15 : FW RX9 15 9 3 := ⟨RX9, TX9, 11, rfl, by decide, gd_t 187 ⟨rfl, rfl⟩, lay_X9⟩
set_option maxRecDepth 100000 in
theorem fw_X9_18 : FW RX9 18 9 4 := ⟨RX9, TX9, 11, rfl, by decide, gd_t 188 ⟨rfl, rfl⟩, lay_X9⟩
set_option maxRecDepth 100000 in
theorem fw_X9_21 : FW RX9 21 9 5 := ⟨RX9, TX9, 11, rfl, by decide, gd_t 189 ⟨rfl, rfl⟩, lay_X9⟩
set_option maxRecDepth 100000 in
theorem fw_X9_24 : FW RX9 24 9 6 := ⟨RX9, TX9, 11, rfl, by decide, gd_t 190 ⟨rfl, rfl⟩, lay_X9⟩
set_option maxRecDepth 100000 in
theorem fw_X9_27 : FW RX9 27 9 7 := ⟨RX9, TX9, 11, rfl, by decide, gd_t 191 ⟨rfl, rfl⟩, lay_X9⟩
set_option maxRecDepth 100000 in
theorem fw_X9_30 : FW RX9 30 9 8 := ⟨RX9, TX9, 11, rfl, by decide, gd_t 192 ⟨rfl, rfl⟩, lay_X9⟩
set_option maxRecDepth 100000 in
theorem fw_X9_34 : FW RX9 34 9 9 := ⟨RX9, TX9, 11, rfl, by decide, gd_t 193 ⟨rfl, rfl⟩, lay_X9⟩
set_option maxRecDepth 100000 in
theorem fw_X9_51 : FW RX9 51 9 10 := ⟨RX9, TX9, 11, rfl, by decide, gd_t 194 ⟨rfl, rfl⟩, lay_X9⟩
set_option maxRecDepth 100000 in
theorem pw_X9_51 : PW RX9 51 9 10 := ⟨RX9, TX9, 11, tyX9, rfl, by decide, gd_t 194 ⟨rfl, rfl⟩, lay_X9, tyX9_ok, nmX9, rfl, by decide +kernel⟩
set_option maxRecDepth 100000 in
theorem fw_X7_11 : FW RX7 11 7 0 := ⟨RX7, TX7, 5, rfl, by decide, gd_t 224 ⟨rfl, rfl⟩, lay_X7⟩
set_option maxRecDepth 100000 in
theorem fw_X7_15 : FW RX7 15 7 1 := ⟨RX7, TX7, 5, rfl, by decide, gd_t 225 ⟨rfl, rfl⟩, lay_X7⟩
set_option maxRecDepth 100000 in
theorem fw_X7_18 : FW RX7 18 7 2 := ⟨RX7, TX7, 5, rfl, by decide, gd_t 226 ⟨rfl, rfl⟩, lay_X7⟩
set_option maxRecDepth 100000 in
theorem fw_X7_21 : FW RX7 21 7 3 := ⟨RX7, TX7, 5, rfl, by decide, gd_t 227 ⟨rfl, rfl⟩, lay_X7⟩
set_option maxRecDepth 100000 in
theorem fw_X7_24 : FW RX7 24 7 4 := ⟨RX7, TX7, 5, rfl, by decide, gd_t 228 ⟨rfl, rfl⟩, lay_X7⟩
set_option maxRecDepth 100000 in
theorem pw_X7_24 : PW RX7 24 7 4 := ⟨RX7, TX7, 5, tyX7, rfl, by decide, gd_t 228 ⟨rfl, rfl⟩, lay_X7, tyX7_ok, nmX7, rfl, by decide +kernel⟩
set_option maxRecDepth 100000 in
theorem fw_X3_9 : FW RX3 9 3 0 := ⟨RX3, TX3, 3, rfl, by decide, gd_t 246 ⟨rfl, rfl⟩, lay_X3⟩
set_option maxRecDepth 100000 in
theorem fw_X3_15 : FW RX3 15 3 1 := ⟨RX3, TX3, 3, rfl, by decide, gd_t 247 ⟨rfl, rfl⟩, lay_X3⟩
set_option maxRecDepth 100000 in
theorem fw_X3_19 : FW RX3 19 3 2 := ⟨RX3, TX3, 3, rfl, by decide, gd_t 248 ⟨rfl, rfl⟩, lay_X3⟩
set_option maxRecDepth 100000 in
theorem fw_X0_22 : FW RX0 22 0 0 := ⟨RX0, TX0, 4, rfl, by decide, gd_t 262 ⟨rfl, rfl⟩, lay_X0⟩
set_option maxRecDepth 100000 in
theorem fw_X0_9 : FW RX0 9 0 1 := ⟨RX0, TX0, 4, rfl, by decide, gd_t 263 ⟨rfl, rfl⟩, lay_X0⟩
set_option maxRecDepth 100000 in
theorem fw_X0_15 : FW RX0 15 0 2 := ⟨RX0, TX0, 4, rfl, by decide, gd_t 264 ⟨rfl, rfl⟩, lay_X0⟩
set_option maxRecDepth 100000 in
theorem fw_X0_19 : FW RX0 19 0 3 := ⟨RX0, TX0, 4, rfl, by decide, gd_t 265 ⟨rfl, rfl⟩, lay_X0⟩
set_option maxRecDepth 100000 in
theorem fw_X6_22 : FW RX6 22 6 0 := ⟨RX6, TX6, 6, rfl, by decide, gd_t 284 ⟨rfl, rfl⟩, lay_X6⟩
set_option maxRecDepth 100000 in
theorem fw_X6_9 : FW RX6 9 6 1 := ⟨RX6, TX6, 6, rfl, by decide, gd_t 285 ⟨rfl, rfl⟩, lay_X6⟩
set_option maxRecDepth 100000 in
theorem fw_X6_13 : FW RX6 13 6 2 := ⟨RX6, TX6, 6, rfl, by decide, gd_t 286 ⟨rfl, rfl⟩, lay_X6⟩
set_option maxRecDepth 100000 in
theorem fw_X6_19 : FW RX6 19 6 3 := ⟨RX6, TX6, 6, rfl, by decide, gd_t 287 ⟨rfl, rfl⟩, lay_X6⟩
set_option maxRecDepth 100000 in
theorem fw_X6_26 : FW RX6 26 6 4 := ⟨RX6, TX6, 6, rfl, by decide, gd_t 288 ⟨rfl, rfl⟩, lay_X6⟩
set_option maxRecDepth 100000 in
theorem pw_X6_26 : PW RX6 26 6 4 := ⟨RX6, TX6, 6, tyX6, rfl, by decide, gd_t 288 ⟨rfl, rfl⟩, lay_X6, tyX6_ok, nmX6, rfl, by decide +kernel⟩
set_option maxRecDepth 100000 in
theorem fw_X6_30 : FW RX6 30 6 5 := ⟨RX6, TX6, 6, rfl, by decide, gd_t 289 ⟨rfl, rfl⟩, lay_X6⟩
set_option maxRecDepth 100000 in
theorem pw_X6_30 : PW RX6 30 6 5 := ⟨RX6, TX6, 6, tyX6, rfl, by decide, gd_t 289 ⟨rfl, rfl⟩, lay_X6, tyX6_ok, nmX6, rfl, by decide +kernel⟩
set_option maxRecDepth 100000 in
theorem fw_X10_9 : FW RX10 9 10 0 := ⟨RX10, TX10, 14, rfl, by decide, gd_t 303 ⟨rfl, rfl⟩, lay_X10⟩
set_option maxRecDepth 100000 in
theorem fw_X10_16 : FW RX10 16 10 1 := ⟨RX10, TX10, 14, rfl, by decide, gd_t 304 ⟨rfl, rfl⟩, lay_X10⟩
set_option maxRecDepth 100000 in
theorem fw_X10_25 : FW RX10 25 10 2 := ⟨RX10, TX10, 14, rfl, by decide, gd_t 305 ⟨rfl, rfl⟩, lay_X10⟩
set_option maxRecDepth 100000 in
theorem fw_X10_32 : FW RX10 32 10 3 := ⟨RX10, TX10, 14, rfl, by decide, gd_t 306 ⟨rfl, rfl⟩, lay_X10⟩
set_option maxRecDepth 100000 in
theorem fw_X10_41 : FW RX10 41 10 4 := ⟨RX10, TX10, 14, rfl, by decide, gd_t 307 ⟨rfl, rfl⟩, lay_X10⟩
set_option maxRecDepth 100000 in
theorem fw_X10_48 : FW RX10 48 10 5 := ⟨RX10, TX10, 14, rfl, by decide, gd_t 308 ⟨rfl, rfl⟩, lay_X10⟩
set_option maxRecDepth 100000 in
theorem fw_X10_57 : FW RX10 57 10 6 := ⟨RX10, TX10, 14, rfl, by decide, gd_t 309 ⟨rfl, rfl⟩, lay_X10⟩
set_option maxRecDepth 100000 in
theorem fw_X10_64 : FW RX10 64 10 7 := ⟨RX10, TX10, 14, rfl, by decide, gd_t 310 ⟨rfl, rfl⟩, lay_X10⟩
set_option maxRecDepth 100000 in
theorem fw_X10_73 : FW RX10 73 10 8 := ⟨RX10, TX10, 14, rfl, by decide, gd_t 311 ⟨rfl, rfl⟩, lay_X10⟩
set_option maxRecDepth 100000 in
theorem fw_X10_82 : FW RX10 82 10 9 := ⟨RX10, TX10, 14, rfl, by decide, gd_t 312 ⟨rfl, rfl⟩, lay_X10⟩
set_option maxRecDepth 100000 in
theorem fw_X10_89 : FW RX10 89 10 10 := ⟨RX10, TX10, 14, rfl, by decide, gd_t 313 ⟨rfl, rfl⟩, lay_X10⟩
set_option maxRecDepth 100000 in
theorem fw_X10_93 : FW RX10 93 10 11 := ⟨RX10, TX10, 14, rfl, by decide, gd_t 314 ⟨rfl, rfl⟩, lay_X10⟩
set_option maxRecDepth 100000 in
theorem fw_X10_295 : FW RX10 295 10 12 := ⟨RX10, TX10, 14, rfl, by decide, gd_t 315 ⟨rfl, rfl⟩, lay_X10⟩
set_option maxRecDepth 100000 in
theorem pw_X10_295 : PW RX10 295 10 12 := ⟨RX10, TX10, 14, tyX10, rfl, by decide, gd_t 315 ⟨rfl, rfl⟩, lay_X10, tyX10_ok, nmX10, rfl, by decide +kernel⟩
set_option maxRecDepth 100000 in
theorem fw_X10_189 : FW RX10 189 10 13 := ⟨RX10, TX10, 14, rfl, by decide, gd_t 316 ⟨rfl, rfl⟩, lay_X10⟩
set_option maxRecDepth 100000 in
theorem pw_X10_189 : PW RX10 189 10 13 := ⟨RX10, TX10, 14, tyX10, rfl, by decide, gd_t 316 ⟨rfl, rfl⟩, lay_X10, tyX10_ok, nmX10, rfl, by decide +kernel⟩
set_option maxRecDepth 100000 in
theorem sl_X1_29 : Cond.fieldLink RX1 29 "BenchTimes$Elements" "ABOVE" "[I" ∈ gd := gd_t 381 ⟨rfl, rfl⟩
set_option maxRecDepth 100000 in
theorem sl_J0_38 : Cond.fieldLink RJ0 38 "java/lang/String" "COMPACT_STRINGS" "Z" ∈ gd := gd_t 678 ⟨rfl, rfl⟩
set_option maxRecDepth 100000 in
theorem sl_J0_1053 : Cond.fieldLink RJ0 1053 "jdk/internal/util/Preconditions" "SIOOBE_FORMATTER" "Ljava/util/function/BiFunction;" ∈ gd := gd_t 694 ⟨rfl, rfl⟩
set_option maxRecDepth 100000 in
theorem sl_J2_44 : Cond.fieldLink RJ2 44 "java/lang/StringUTF16" "$assertionsDisabled" "Z" ∈ gd := gd_t 712 ⟨rfl, rfl⟩
set_option maxRecDepth 100000 in
theorem sl_J2_59 : Cond.fieldLink RJ2 59 "java/lang/StringUTF16" "HI_BYTE_SHIFT" "I" ∈ gd := gd_t 714 ⟨rfl, rfl⟩
set_option maxRecDepth 100000 in
theorem sl_J2_63 : Cond.fieldLink RJ2 63 "java/lang/StringUTF16" "LO_BYTE_SHIFT" "I" ∈ gd := gd_t 716 ⟨rfl, rfl⟩
set_option maxRecDepth 100000 in
theorem sl_X5_55 : Cond.fieldLink RX5 55 "BenchTimes$Rules" "GREATEST" "[I" ∈ gd := gd_t 728 ⟨rfl, rfl⟩
set_option maxRecDepth 100000 in
theorem fw_X11_127 : FW RX11 127 11 0 := ⟨RX11, TX11, 49, rfl, by decide, gd_t 1014 ⟨rfl, rfl⟩, lay_X11⟩
set_option maxRecDepth 100000 in
theorem pw_X11_127 : PW RX11 127 11 0 := ⟨RX11, TX11, 49, tyX11, rfl, by decide, gd_t 1014 ⟨rfl, rfl⟩, lay_X11, tyX11_ok, nmX11, rfl, by decide +kernel⟩
set_option maxRecDepth 100000 in
theorem fw_X11_7 : FW RX11 7 11 1 := ⟨RX11, TX11, 49, rfl, by decide, gd_t 1015 ⟨rfl, rfl⟩, lay_X11⟩
set_option maxRecDepth 100000 in
theorem fw_X11_13 : FW RX11 13 11 2 := ⟨RX11, TX11, 49, rfl, by decide, gd_t 1016 ⟨rfl, rfl⟩, lay_X11⟩
set_option maxRecDepth 100000 in
theorem pw_X11_13 : PW RX11 13 11 2 := ⟨RX11, TX11, 49, tyX11, rfl, by decide, gd_t 1016 ⟨rfl, rfl⟩, lay_X11, tyX11_ok, nmX11, rfl, by decide +kernel⟩
set_option maxRecDepth 100000 in
theorem fw_X11_17 : FW RX11 17 11 3 := ⟨RX11, TX11, 49, rfl, by decide, gd_t 1017 ⟨rfl, rfl⟩, lay_X11⟩
set_option maxRecDepth 100000 in
theorem pw_X11_17 : PW RX11 17 11 3 := ⟨RX11, TX11, 49, tyX11, rfl, by decide, gd_t 1017 ⟨rfl, rfl⟩, lay_X11, tyX11_ok, nmX11, rfl, by decide +kernel⟩
set_option maxRecDepth 100000 in
theorem fw_X11_151 : FW RX11 151 11 4 := ⟨RX11, TX11, 49, rfl, by decide, gd_t 1018 ⟨rfl, rfl⟩, lay_X11⟩
set_option maxRecDepth 100000 in
theorem pw_X11_151 : PW RX11 151 11 4 := ⟨RX11, TX11, 49, tyX11, rfl, by decide, gd_t 1018 ⟨rfl, rfl⟩, lay_X11, tyX11_ok, nmX11, rfl, by decide +kernel⟩
set_option maxRecDepth 100000 in
theorem fw_X11_20 : FW RX11 20 11 5 := ⟨RX11, TX11, 49, rfl, by decide, gd_t 1019 ⟨rfl, rfl⟩, lay_X11⟩
set_option maxRecDepth 100000 in
theorem fw_X11_23 : FW RX11 23 11 6 := ⟨RX11, TX11, 49, rfl, by decide, gd_t 1020 ⟨rfl, rfl⟩, lay_X11⟩
set_option maxRecDepth 100000 in
theorem fw_X11_157 : FW RX11 157 11 7 := ⟨RX11, TX11, 49, rfl, by decide, gd_t 1021 ⟨rfl, rfl⟩, lay_X11⟩
set_option maxRecDepth 100000 in
theorem pw_X11_157 : PW RX11 157 11 7 := ⟨RX11, TX11, 49, tyX11, rfl, by decide, gd_t 1021 ⟨rfl, rfl⟩, lay_X11, tyX11_ok, nmX11, rfl, by decide +kernel⟩
set_option maxRecDepth 100000 in
theorem fw_X11_26 : FW RX11 26 11 8 := ⟨RX11, TX11, 49, rfl, by decide, gd_t 1022 ⟨rfl, rfl⟩, lay_X11⟩
set_option maxRecDepth 100000 in
theorem fw_X11_29 : FW RX11 29 11 9 := ⟨RX11, TX11, 49, rfl, by decide, gd_t 1023 ⟨rfl, rfl⟩, lay_X11⟩
set_option maxRecDepth 100000 in
theorem fw_X11_32 : FW RX11 32 11 10 := ⟨RX11, TX11, 49, rfl, by decide, gd_t 1024 ⟨rfl, rfl⟩, lay_X11⟩
set_option maxRecDepth 100000 in
theorem fw_X11_35 : FW RX11 35 11 11 := ⟨RX11, TX11, 49, rfl, by decide, gd_t 1025 ⟨rfl, rfl⟩, lay_X11⟩
set_option maxRecDepth 100000 in
theorem fw_X11_130 : FW RX11 130 11 12 := ⟨RX11, TX11, 49, rfl, by decide, gd_t 1026 ⟨rfl, rfl⟩, lay_X11⟩
set_option maxRecDepth 100000 in
theorem pw_X11_130 : PW RX11 130 11 12 := ⟨RX11, TX11, 49, tyX11, rfl, by decide, gd_t 1026 ⟨rfl, rfl⟩, lay_X11, tyX11_ok, nmX11, rfl, by decide +kernel⟩
set_option maxRecDepth 100000 in
theorem fw_X11_38 : FW RX11 38 11 13 := ⟨RX11, TX11, 49, rfl, by decide, gd_t 1027 ⟨rfl, rfl⟩, lay_X11⟩
set_option maxRecDepth 100000 in
theorem fw_X11_41 : FW RX11 41 11 14 := ⟨RX11, TX11, 49, rfl, by decide, gd_t 1028 ⟨rfl, rfl⟩, lay_X11⟩
set_option maxRecDepth 100000 in
theorem fw_X11_44 : FW RX11 44 11 15 := ⟨RX11, TX11, 49, rfl, by decide, gd_t 1029 ⟨rfl, rfl⟩, lay_X11⟩
set_option maxRecDepth 100000 in
theorem fw_X11_47 : FW RX11 47 11 16 := ⟨RX11, TX11, 49, rfl, by decide, gd_t 1030 ⟨rfl, rfl⟩, lay_X11⟩
set_option maxRecDepth 100000 in
theorem fw_X11_173 : FW RX11 173 11 17 := ⟨RX11, TX11, 49, rfl, by decide, gd_t 1031 ⟨rfl, rfl⟩, lay_X11⟩
set_option maxRecDepth 100000 in
theorem pw_X11_173 : PW RX11 173 11 17 := ⟨RX11, TX11, 49, tyX11, rfl, by decide, gd_t 1031 ⟨rfl, rfl⟩, lay_X11, tyX11_ok, nmX11, rfl, by decide +kernel⟩
set_option maxRecDepth 100000 in
theorem fw_X11_51 : FW RX11 51 11 18 := ⟨RX11, TX11, 49, rfl, by decide, gd_t 1032 ⟨rfl, rfl⟩, lay_X11⟩
set_option maxRecDepth 100000 in
theorem fw_X11_54 : FW RX11 54 11 19 := ⟨RX11, TX11, 49, rfl, by decide, gd_t 1033 ⟨rfl, rfl⟩, lay_X11⟩
set_option maxRecDepth 100000 in
theorem fw_X11_57 : FW RX11 57 11 20 := ⟨RX11, TX11, 49, rfl, by decide, gd_t 1034 ⟨rfl, rfl⟩, lay_X11⟩
set_option maxRecDepth 100000 in
theorem fw_X11_185 : FW RX11 185 11 21 := ⟨RX11, TX11, 49, rfl, by decide, gd_t 1035 ⟨rfl, rfl⟩, lay_X11⟩
set_option maxRecDepth 100000 in
theorem pw_X11_185 : PW RX11 185 11 21 := ⟨RX11, TX11, 49, tyX11, rfl, by decide, gd_t 1035 ⟨rfl, rfl⟩, lay_X11, tyX11_ok, nmX11, rfl, by decide +kernel⟩
set_option maxRecDepth 100000 in
theorem fw_X11_60 : FW RX11 60 11 22 := ⟨RX11, TX11, 49, rfl, by decide, gd_t 1036 ⟨rfl, rfl⟩, lay_X11⟩
set_option maxRecDepth 100000 in
theorem fw_X11_63 : FW RX11 63 11 23 := ⟨RX11, TX11, 49, rfl, by decide, gd_t 1037 ⟨rfl, rfl⟩, lay_X11⟩
set_option maxRecDepth 100000 in
theorem fw_X11_198 : FW RX11 198 11 24 := ⟨RX11, TX11, 49, rfl, by decide, gd_t 1038 ⟨rfl, rfl⟩, lay_X11⟩
set_option maxRecDepth 100000 in
theorem pw_X11_198 : PW RX11 198 11 24 := ⟨RX11, TX11, 49, tyX11, rfl, by decide, gd_t 1038 ⟨rfl, rfl⟩, lay_X11, tyX11_ok, nmX11, rfl, by decide +kernel⟩
set_option maxRecDepth 100000 in
theorem fw_X11_221 : FW RX11 221 11 25 := ⟨RX11, TX11, 49, rfl, by decide, gd_t 1039 ⟨rfl, rfl⟩, lay_X11⟩
set_option maxRecDepth 100000 in
theorem pw_X11_221 : PW RX11 221 11 25 := ⟨RX11, TX11, 49, tyX11, rfl, by decide, gd_t 1039 ⟨rfl, rfl⟩, lay_X11, tyX11_ok, nmX11, rfl, by decide +kernel⟩
set_option maxRecDepth 100000 in
theorem fw_X11_66 : FW RX11 66 11 26 := ⟨RX11, TX11, 49, rfl, by decide, gd_t 1040 ⟨rfl, rfl⟩, lay_X11⟩
set_option maxRecDepth 100000 in
theorem fw_X11_69 : FW RX11 69 11 27 := ⟨RX11, TX11, 49, rfl, by decide, gd_t 1041 ⟨rfl, rfl⟩, lay_X11⟩
set_option maxRecDepth 100000 in
theorem fw_X11_72 : FW RX11 72 11 28 := ⟨RX11, TX11, 49, rfl, by decide, gd_t 1042 ⟨rfl, rfl⟩, lay_X11⟩
set_option maxRecDepth 100000 in
theorem fw_X11_75 : FW RX11 75 11 29 := ⟨RX11, TX11, 49, rfl, by decide, gd_t 1043 ⟨rfl, rfl⟩, lay_X11⟩
set_option maxRecDepth 100000 in
theorem fw_X11_78 : FW RX11 78 11 30 := ⟨RX11, TX11, 49, rfl, by decide, gd_t 1044 ⟨rfl, rfl⟩, lay_X11⟩
set_option maxRecDepth 100000 in
theorem fw_X11_81 : FW RX11 81 11 31 := ⟨RX11, TX11, 49, rfl, by decide, gd_t 1045 ⟨rfl, rfl⟩, lay_X11⟩
set_option maxRecDepth 100000 in
theorem fw_X11_84 : FW RX11 84 11 32 := ⟨RX11, TX11, 49, rfl, by decide, gd_t 1046 ⟨rfl, rfl⟩, lay_X11⟩
set_option maxRecDepth 100000 in
theorem fw_X11_224 : FW RX11 224 11 33 := ⟨RX11, TX11, 49, rfl, by decide, gd_t 1047 ⟨rfl, rfl⟩, lay_X11⟩
set_option maxRecDepth 100000 in
theorem pw_X11_224 : PW RX11 224 11 33 := ⟨RX11, TX11, 49, tyX11, rfl, by decide, gd_t 1047 ⟨rfl, rfl⟩, lay_X11, tyX11_ok, nmX11, rfl, by decide +kernel⟩
set_option maxRecDepth 100000 in
theorem fw_X11_87 : FW RX11 87 11 34 := ⟨RX11, TX11, 49, rfl, by decide, gd_t 1048 ⟨rfl, rfl⟩, lay_X11⟩
set_option maxRecDepth 100000 in
theorem fw_X11_90 : FW RX11 90 11 35 := ⟨RX11, TX11, 49, rfl, by decide, gd_t 1049 ⟨rfl, rfl⟩, lay_X11⟩
set_option maxRecDepth 100000 in
theorem fw_X11_93 : FW RX11 93 11 36 := ⟨RX11, TX11, 49, rfl, by decide, gd_t 1050 ⟨rfl, rfl⟩, lay_X11⟩
set_option maxRecDepth 100000 in
theorem fw_X11_96 : FW RX11 96 11 37 := ⟨RX11, TX11, 49, rfl, by decide, gd_t 1051 ⟨rfl, rfl⟩, lay_X11⟩
set_option maxRecDepth 100000 in
theorem fw_X11_99 : FW RX11 99 11 38 := ⟨RX11, TX11, 49, rfl, by decide, gd_t 1052 ⟨rfl, rfl⟩, lay_X11⟩
set_option maxRecDepth 100000 in
theorem fw_X11_245 : FW RX11 245 11 39 := ⟨RX11, TX11, 49, rfl, by decide, gd_t 1053 ⟨rfl, rfl⟩, lay_X11⟩
set_option maxRecDepth 100000 in
theorem pw_X11_245 : PW RX11 245 11 39 := ⟨RX11, TX11, 49, tyX11, rfl, by decide, gd_t 1053 ⟨rfl, rfl⟩, lay_X11, tyX11_ok, nmX11, rfl, by decide +kernel⟩
set_option maxRecDepth 100000 in
theorem fw_X11_102 : FW RX11 102 11 40 := ⟨RX11, TX11, 49, rfl, by decide, gd_t 1054 ⟨rfl, rfl⟩, lay_X11⟩
set_option maxRecDepth 100000 in
theorem fw_X11_105 : FW RX11 105 11 41 := ⟨RX11, TX11, 49, rfl, by decide, gd_t 1055 ⟨rfl, rfl⟩, lay_X11⟩
set_option maxRecDepth 100000 in
theorem fw_X11_108 : FW RX11 108 11 42 := ⟨RX11, TX11, 49, rfl, by decide, gd_t 1056 ⟨rfl, rfl⟩, lay_X11⟩
set_option maxRecDepth 100000 in
theorem fw_X11_111 : FW RX11 111 11 43 := ⟨RX11, TX11, 49, rfl, by decide, gd_t 1057 ⟨rfl, rfl⟩, lay_X11⟩
set_option maxRecDepth 100000 in
theorem fw_X11_201 : FW RX11 201 11 44 := ⟨RX11, TX11, 49, rfl, by decide, gd_t 1058 ⟨rfl, rfl⟩, lay_X11⟩
set_option maxRecDepth 100000 in
theorem pw_X11_201 : PW RX11 201 11 44 := ⟨RX11, TX11, 49, tyX11, rfl, by decide, gd_t 1058 ⟨rfl, rfl⟩, lay_X11, tyX11_ok, nmX11, rfl, by decide +kernel⟩
set_option maxRecDepth 100000 in
theorem fw_X11_114 : FW RX11 114 11 45 := ⟨RX11, TX11, 49, rfl, by decide, gd_t 1059 ⟨rfl, rfl⟩, lay_X11⟩
set_option maxRecDepth 100000 in
theorem fw_X11_117 : FW RX11 117 11 46 := ⟨RX11, TX11, 49, rfl, by decide, gd_t 1060 ⟨rfl, rfl⟩, lay_X11⟩
set_option maxRecDepth 100000 in
theorem fw_X11_120 : FW RX11 120 11 47 := ⟨RX11, TX11, 49, rfl, by decide, gd_t 1061 ⟨rfl, rfl⟩, lay_X11⟩
set_option maxRecDepth 100000 in
theorem fw_X11_123 : FW RX11 123 11 48 := ⟨RX11, TX11, 49, rfl, by decide, gd_t 1062 ⟨rfl, rfl⟩, lay_X11⟩
set_option maxRecDepth 100000 in
theorem sl_X11_204 : Cond.fieldLink RX11 204 "BenchTimesModel" "WORDS" "[I" ∈ gd := gd_t 1304 ⟨rfl, rfl⟩
set_option maxRecDepth 100000 in
theorem sl_J0_9 : Cond.fieldLink RJ0 9 "java/lang/String" "value" "[B" ∈ gd := gd_t 1398 ⟨rfl, rfl⟩
set_option maxRecDepth 100000 in
theorem sl_J0_15 : Cond.fieldLink RJ0 15 "java/lang/String" "coder" "B" ∈ gd := gd_t 1399 ⟨rfl, rfl⟩
set_option maxRecDepth 100000 in
theorem kc_X10_310 : Cond.constant RX10 310 (-1000000000) ∈ gd := gd_t 360 ⟨rfl, rfl⟩
set_option maxRecDepth 100000 in
theorem kc_X10_240 : Cond.constant RX10 240 (999999) ∈ gd := gd_t 750 ⟨rfl, rfl⟩
set_option maxRecDepth 100000 in
theorem kc_X0_54 : Cond.constantLong RX0 54 (100) ∈ gd := gd_t 891 ⟨rfl, rfl⟩
set_option maxRecDepth 100000 in
theorem kc_X11_126 : Cond.constant RX11 126 (-1000000000) ∈ gd := gd_t 1173 ⟨rfl, rfl⟩
set_option maxRecDepth 100000 in
theorem kc_X11_220 : Cond.constant RX11 220 (999999) ∈ gd := gd_t 1321 ⟨rfl, rfl⟩
set_option maxRecDepth 100000 in
theorem kc_X11_233 : Cond.constantLong RX11 233 (100) ∈ gd := gd_t 1362 ⟨rfl, rfl⟩
set_option maxRecDepth 100000 in
theorem ml_X10_22 : Cond.methodLink RX10 22 yX8_init ∈ gd := gd_t 49 ⟨rfl, rfl⟩
set_option maxRecDepth 100000 in
theorem ml_X10_38 : Cond.methodLink RX10 38 yX4_init ∈ gd := gd_t 127 ⟨rfl, rfl⟩
set_option maxRecDepth 100000 in
theorem ml_X10_54 : Cond.methodLink RX10 54 yX9_init ∈ gd := gd_t 177 ⟨rfl, rfl⟩
set_option maxRecDepth 100000 in
theorem ml_X9_45 : Cond.methodLink RX9 45 yJ7_fill_53178 ∈ gd := gd_t 181 ⟨rfl, rfl⟩
set_option maxRecDepth 100000 in
theorem ml_X10_70 : Cond.methodLink RX10 70 yX3_init ∈ gd := gd_t 242 ⟨rfl, rfl⟩
set_option maxRecDepth 100000 in
theorem ml_X10_79 : Cond.methodLink RX10 79 yX0_init ∈ gd := gd_t 258 ⟨rfl, rfl⟩
set_option maxRecDepth 100000 in
theorem ml_X10_88 : Cond.methodLink RX10 88 yX6_init ∈ gd := gd_t 278 ⟨rfl, rfl⟩
set_option maxRecDepth 100000 in
theorem ml_X10_96 : Cond.methodLink RX10 96 yX1_isKind ∈ gd := gd_t 350 ⟨rfl, rfl⟩
set_option maxRecDepth 100000 in
theorem ml_X10_100 : Cond.methodLink RX10 100 yX10_finding ∈ gd := gd_t 356 ⟨rfl, rfl⟩
set_option maxRecDepth 100000 in
theorem ml_X10_104 : Cond.methodLink RX10 104 yX1_isFull ∈ gd := gd_t 361 ⟨rfl, rfl⟩
set_option maxRecDepth 100000 in
theorem ml_X10_108 : Cond.methodLink RX10 108 yX1_add ∈ gd := gd_t 365 ⟨rfl, rfl⟩
set_option maxRecDepth 100000 in
theorem ml_X10_111 : Cond.methodLink RX10 111 yX1_has ∈ gd := gd_t 373 ⟨rfl, rfl⟩
set_option maxRecDepth 100000 in
theorem ml_X10_114 : Cond.methodLink RX10 114 yX1_isUnder ∈ gd := gd_t 377 ⟨rfl, rfl⟩
set_option maxRecDepth 100000 in
theorem ml_X10_118 : Cond.methodLink RX10 118 yX1_allowanceOf ∈ gd := gd_t 383 ⟨rfl, rfl⟩
set_option maxRecDepth 100000 in
theorem ml_X10_121 : Cond.methodLink RX10 121 yX10_isWithin ∈ gd := gd_t 391 ⟨rfl, rfl⟩
set_option maxRecDepth 100000 in
theorem ml_X10_125 : Cond.methodLink RX10 125 yX1_setAllowances ∈ gd := gd_t 392 ⟨rfl, rfl⟩
set_option maxRecDepth 100000 in
theorem ml_X10_129 : Cond.methodLink RX10 129 yX10_isRater ∈ gd := gd_t 400 ⟨rfl, rfl⟩
set_option maxRecDepth 100000 in
theorem ml_X10_132 : Cond.methodLink RX10 132 yX10_isPace ∈ gd := gd_t 403 ⟨rfl, rfl⟩
set_option maxRecDepth 100000 in
theorem ml_X10_135 : Cond.methodLink RX10 135 yX8_isFullOfFilms ∈ gd := gd_t 406 ⟨rfl, rfl⟩
set_option maxRecDepth 100000 in
theorem ml_X10_138 : Cond.methodLink RX10 138 yX8_addFilm ∈ gd := gd_t 410 ⟨rfl, rfl⟩
set_option maxRecDepth 100000 in
theorem ml_X10_142 : Cond.methodLink RX10 142 yX8_habitOf ∈ gd := gd_t 418 ⟨rfl, rfl⟩
set_option maxRecDepth 100000 in
theorem ml_X10_145 : Cond.methodLink RX10 145 yX8_isFullOfCycles ∈ gd := gd_t 426 ⟨rfl, rfl⟩
set_option maxRecDepth 100000 in
theorem ml_X10_148 : Cond.methodLink RX10 148 yX8_addCycle ∈ gd := gd_t 430 ⟨rfl, rfl⟩
set_option maxRecDepth 100000 in
theorem ml_X10_152 : Cond.methodLink RX10 152 yX8_cycleMany ∈ gd := gd_t 438 ⟨rfl, rfl⟩
set_option maxRecDepth 100000 in
theorem ml_X10_156 : Cond.methodLink RX10 156 yX8_normalOf ∈ gd := gd_t 442 ⟨rfl, rfl⟩
set_option maxRecDepth 100000 in
theorem ml_X8_44 : Cond.methodLink RX8 44 yX8_habitOf ∈ gd := gd_t 446 ⟨rfl, rfl⟩
set_option maxRecDepth 100000 in
theorem ml_X8_48 : Cond.methodLink RX8 48 yJ9_max_7cf53 ∈ gd := gd_t 447 ⟨rfl, rfl⟩
set_option maxRecDepth 100000 in
theorem ml_X10_159 : Cond.methodLink RX10 159 yX1_kindOf ∈ gd := gd_t 454 ⟨rfl, rfl⟩
set_option maxRecDepth 100000 in
theorem ml_X10_162 : Cond.methodLink RX10 162 yX8_study ∈ gd := gd_t 458 ⟨rfl, rfl⟩
set_option maxRecDepth 100000 in
theorem ml_X8_54 : Cond.methodLink RX8 54 yX8_gatherNormals ∈ gd := gd_t 462 ⟨rfl, rfl⟩
set_option maxRecDepth 100000 in
theorem ml_X8_84 : Cond.methodLink RX8 84 yX8_normalOf ∈ gd := gd_t 466 ⟨rfl, rfl⟩
set_option maxRecDepth 100000 in
theorem ml_X8_87 : Cond.methodLink RX8 87 yX8_putInOrder ∈ gd := gd_t 467 ⟨rfl, rfl⟩
set_option maxRecDepth 100000 in
theorem ml_X8_58 : Cond.methodLink RX8 58 yX8_keepNormals ∈ gd := gd_t 471 ⟨rfl, rfl⟩
set_option maxRecDepth 100000 in
theorem ml_X8_90 : Cond.methodLink RX8 90 yJ9_abs_0f7a4 ∈ gd := gd_t 475 ⟨rfl, rfl⟩
set_option maxRecDepth 100000 in
theorem ml_X8_64 : Cond.methodLink RX8 64 yX1_allowanceOf ∈ gd := gd_t 478 ⟨rfl, rfl⟩
set_option maxRecDepth 100000 in
theorem ml_X10_166 : Cond.methodLink RX10 166 yX8_studied ∈ gd := gd_t 479 ⟨rfl, rfl⟩
set_option maxRecDepth 100000 in
theorem ml_X10_169 : Cond.methodLink RX10 169 yX2_isFull ∈ gd := gd_t 487 ⟨rfl, rfl⟩
set_option maxRecDepth 100000 in
theorem ml_X10_170 : Cond.methodLink RX10 170 yX2_add ∈ gd := gd_t 491 ⟨rfl, rfl⟩
set_option maxRecDepth 100000 in
theorem ml_X10_172 : Cond.methodLink RX10 172 yX2_has ∈ gd := gd_t 499 ⟨rfl, rfl⟩
set_option maxRecDepth 100000 in
theorem ml_X10_173 : Cond.methodLink RX10 173 yX2_placeOf ∈ gd := gd_t 504 ⟨rfl, rfl⟩
set_option maxRecDepth 100000 in
theorem ml_X10_176 : Cond.methodLink RX10 176 yX4_latestOf ∈ gd := gd_t 508 ⟨rfl, rfl⟩
set_option maxRecDepth 100000 in
theorem ml_X10_179 : Cond.methodLink RX10 179 yX2_isFullOfParts ∈ gd := gd_t 512 ⟨rfl, rfl⟩
set_option maxRecDepth 100000 in
theorem ml_X10_182 : Cond.methodLink RX10 182 yX2_addPart ∈ gd := gd_t 516 ⟨rfl, rfl⟩
set_option maxRecDepth 100000 in
theorem ml_X10_186 : Cond.methodLink RX10 186 yX2_partMany ∈ gd := gd_t 524 ⟨rfl, rfl⟩
set_option maxRecDepth 100000 in
theorem ml_X10_193 : Cond.methodLink RX10 193 yX10_newRate ∈ gd := gd_t 528 ⟨rfl, rfl⟩
set_option maxRecDepth 100000 in
theorem ml_X10_311 : Cond.methodLink RX10 311 yX4_canMake ∈ gd := gd_t 532 ⟨rfl, rfl⟩
set_option maxRecDepth 100000 in
theorem ml_X4_38 : Cond.methodLink RX4 38 yX2_partMany ∈ gd := gd_t 536 ⟨rfl, rfl⟩
set_option maxRecDepth 100000 in
theorem ml_X4_42 : Cond.methodLink RX4 42 yX2_isMarked ∈ gd := gd_t 537 ⟨rfl, rfl⟩
set_option maxRecDepth 100000 in
theorem ml_X4_53 : Cond.methodLink RX4 53 yX2_elementAt ∈ gd := gd_t 541 ⟨rfl, rfl⟩
set_option maxRecDepth 100000 in
theorem ml_X4_56 : Cond.methodLink RX4 56 yX8_isTimed ∈ gd := gd_t 545 ⟨rfl, rfl⟩
set_option maxRecDepth 100000 in
theorem ml_X10_314 : Cond.methodLink RX10 314 yX4_isFull ∈ gd := gd_t 549 ⟨rfl, rfl⟩
set_option maxRecDepth 100000 in
theorem ml_X10_315 : Cond.methodLink RX10 315 yX4_make ∈ gd := gd_t 553 ⟨rfl, rfl⟩
set_option maxRecDepth 100000 in
theorem ml_X4_62 : Cond.methodLink RX4 62 yX4_latestOf ∈ gd := gd_t 557 ⟨rfl, rfl⟩
set_option maxRecDepth 100000 in
theorem ml_X4_65 : Cond.methodLink RX4 65 yX8_study ∈ gd := gd_t 558 ⟨rfl, rfl⟩
set_option maxRecDepth 100000 in
theorem ml_X4_69 : Cond.methodLink RX4 69 yX8_studied ∈ gd := gd_t 559 ⟨rfl, rfl⟩
set_option maxRecDepth 100000 in
theorem ml_X4_46 : Cond.methodLink RX4 46 yX4_worthOf ∈ gd := gd_t 560 ⟨rfl, rfl⟩
set_option maxRecDepth 100000 in
theorem ml_X4_50 : Cond.methodLink RX4 50 yX2_oftenAt ∈ gd := gd_t 564 ⟨rfl, rfl⟩
set_option maxRecDepth 100000 in
theorem ml_X4_72 : Cond.methodLink RX4 72 yX2_clearMarks ∈ gd := gd_t 568 ⟨rfl, rfl⟩
set_option maxRecDepth 100000 in
theorem ml_X10_196 : Cond.methodLink RX10 196 yX2_many ∈ gd := gd_t 576 ⟨rfl, rfl⟩
set_option maxRecDepth 100000 in
theorem ml_X10_199 : Cond.methodLink RX10 199 yX2_mark ∈ gd := gd_t 580 ⟨rfl, rfl⟩
set_option maxRecDepth 100000 in
theorem ml_X10_202 : Cond.methodLink RX10 202 yX5_valueOf ∈ gd := gd_t 588 ⟨rfl, rfl⟩
set_option maxRecDepth 100000 in
theorem ml_X10_205 : Cond.methodLink RX10 205 yX4_mayMove ∈ gd := gd_t 592 ⟨rfl, rfl⟩
set_option maxRecDepth 100000 in
theorem ml_X10_208 : Cond.methodLink RX10 208 yX4_beginOf ∈ gd := gd_t 596 ⟨rfl, rfl⟩
set_option maxRecDepth 100000 in
theorem ml_X10_211 : Cond.methodLink RX10 211 yJ9_max_7cf53 ∈ gd := gd_t 600 ⟨rfl, rfl⟩
set_option maxRecDepth 100000 in
theorem ml_X10_216 : Cond.methodLink RX10 216 yX10_isWeek ∈ gd := gd_t 605 ⟨rfl, rfl⟩
set_option maxRecDepth 100000 in
theorem ml_X10_219 : Cond.methodLink RX10 219 yX4_inForce ∈ gd := gd_t 608 ⟨rfl, rfl⟩
set_option maxRecDepth 100000 in
theorem ml_X10_222 : Cond.methodLink RX10 222 yX4_sumOf ∈ gd := gd_t 612 ⟨rfl, rfl⟩
set_option maxRecDepth 100000 in
theorem ml_X10_225 : Cond.methodLink RX10 225 yX4_worthOf ∈ gd := gd_t 620 ⟨rfl, rfl⟩
set_option maxRecDepth 100000 in
theorem ml_X10_228 : Cond.methodLink RX10 228 yX5_isFullOfBytes ∈ gd := gd_t 629 ⟨rfl, rfl⟩
set_option maxRecDepth 100000 in
theorem ml_X10_231 : Cond.methodLink RX10 231 yX5_addByte ∈ gd := gd_t 633 ⟨rfl, rfl⟩
set_option maxRecDepth 100000 in
theorem ml_X10_234 : Cond.methodLink RX10 234 yX5_takeTape ∈ gd := gd_t 641 ⟨rfl, rfl⟩
set_option maxRecDepth 100000 in
theorem ml_X5_25 : Cond.methodLink RX5 25 yX5_readClauses ∈ gd := gd_t 645 ⟨rfl, rfl⟩
set_option maxRecDepth 100000 in
theorem ml_X5_36 : Cond.methodLink RX5 36 yJ7_fill_53178 ∈ gd := gd_t 649 ⟨rfl, rfl⟩
set_option maxRecDepth 100000 in
theorem ml_X5_42 : Cond.methodLink RX5 42 yX5_readClause ∈ gd := gd_t 650 ⟨rfl, rfl⟩
set_option maxRecDepth 100000 in
theorem ml_X5_45 : Cond.methodLink RX5 45 yX5_readWord ∈ gd := gd_t 654 ⟨rfl, rfl⟩
set_option maxRecDepth 100000 in
theorem ml_X5_58 : Cond.methodLink RX5 58 yX5_wordOf ∈ gd := gd_t 658 ⟨rfl, rfl⟩
set_option maxRecDepth 100000 in
theorem ml_X5_62 : Cond.methodLink RX5 62 yX5_alikeWith ∈ gd := gd_t 666 ⟨rfl, rfl⟩
set_option maxRecDepth 100000 in
theorem ml_X5_66 : Cond.methodLink RX5 66 yJ0_length_8abf5 ∈ gd := gd_t 670 ⟨rfl, rfl⟩
set_option maxRecDepth 100000 in
theorem ml_J0_335 : Cond.methodLink RJ0 335 yJ0_coder_7d493 ∈ gd := gd_t 674 ⟨rfl, rfl⟩
set_option maxRecDepth 100000 in
theorem ml_X5_76 : Cond.methodLink RX5 76 yJ0_charAt_5068e ∈ gd := gd_t 680 ⟨rfl, rfl⟩
set_option maxRecDepth 100000 in
theorem ml_J0_492 : Cond.methodLink RJ0 492 yJ0_isLatin1_aae02 ∈ gd := gd_t 684 ⟨rfl, rfl⟩
set_option maxRecDepth 100000 in
theorem ml_J0_495 : Cond.methodLink RJ0 495 yJ1_charAt_3b067 ∈ gd := gd_t 688 ⟨rfl, rfl⟩
set_option maxRecDepth 100000 in
theorem ml_J1_9 : Cond.methodLink RJ1 9 yJ0_checkIndex_df160 ∈ gd := gd_t 691 ⟨rfl, rfl⟩
set_option maxRecDepth 100000 in
theorem ml_J0_1059 : Cond.methodLink RJ0 1059 yJ3_checkIndex_8e157 ∈ gd := gd_t 696 ⟨rfl, rfl⟩
set_option maxRecDepth 100000 in
theorem ml_J0_498 : Cond.methodLink RJ0 498 yJ2_charAt_3b067 ∈ gd := gd_t 699 ⟨rfl, rfl⟩
set_option maxRecDepth 100000 in
theorem ml_J2_67 : Cond.methodLink RJ2 67 yJ2_checkIndex_2214a ∈ gd := gd_t 702 ⟨rfl, rfl⟩
set_option maxRecDepth 100000 in
theorem ml_J2_48 : Cond.methodLink RJ2 48 yJ2_length_9d52b ∈ gd := gd_t 705 ⟨rfl, rfl⟩
set_option maxRecDepth 100000 in
theorem ml_J2_414 : Cond.methodLink RJ2 414 yJ0_checkIndex_df160 ∈ gd := gd_t 708 ⟨rfl, rfl⟩
set_option maxRecDepth 100000 in
theorem ml_J2_71 : Cond.methodLink RJ2 71 yJ2_getChar_3b067 ∈ gd := gd_t 709 ⟨rfl, rfl⟩
set_option maxRecDepth 100000 in
theorem ml_X5_70 : Cond.methodLink RX5 70 yJ9_max_7cf53 ∈ gd := gd_t 718 ⟨rfl, rfl⟩
set_option maxRecDepth 100000 in
theorem ml_X5_48 : Cond.methodLink RX5 48 yX5_readSign ∈ gd := gd_t 719 ⟨rfl, rfl⟩
set_option maxRecDepth 100000 in
theorem ml_X5_52 : Cond.methodLink RX5 52 yX5_readNumber ∈ gd := gd_t 723 ⟨rfl, rfl⟩
set_option maxRecDepth 100000 in
theorem ml_X5_29 : Cond.methodLink RX5 29 yX5_takeNewValues ∈ gd := gd_t 730 ⟨rfl, rfl⟩
set_option maxRecDepth 100000 in
theorem ml_X10_237 : Cond.methodLink RX10 237 yX10_isOn ∈ gd := gd_t 743 ⟨rfl, rfl⟩
set_option maxRecDepth 100000 in
theorem ml_X10_244 : Cond.methodLink RX10 244 yX10_isWorker ∈ gd := gd_t 747 ⟨rfl, rfl⟩
set_option maxRecDepth 100000 in
theorem ml_X10_241 : Cond.methodLink RX10 241 yX9_isFull ∈ gd := gd_t 751 ⟨rfl, rfl⟩
set_option maxRecDepth 100000 in
theorem ml_X10_242 : Cond.methodLink RX10 242 yX9_add ∈ gd := gd_t 755 ⟨rfl, rfl⟩
set_option maxRecDepth 100000 in
theorem ml_X9_55 : Cond.methodLink RX9 55 yJ9_abs_0f7a4 ∈ gd := gd_t 759 ⟨rfl, rfl⟩
set_option maxRecDepth 100000 in
theorem ml_X10_247 : Cond.methodLink RX10 247 yX10_isCause ∈ gd := gd_t 764 ⟨rfl, rfl⟩
set_option maxRecDepth 100000 in
theorem ml_X10_250 : Cond.methodLink RX10 250 yX7_isFull ∈ gd := gd_t 767 ⟨rfl, rfl⟩
set_option maxRecDepth 100000 in
theorem ml_X10_251 : Cond.methodLink RX10 251 yX7_add ∈ gd := gd_t 771 ⟨rfl, rfl⟩
set_option maxRecDepth 100000 in
theorem ml_X10_252 : Cond.methodLink RX10 252 yX9_swapBegin ∈ gd := gd_t 779 ⟨rfl, rfl⟩
set_option maxRecDepth 100000 in
theorem ml_X10_255 : Cond.methodLink RX10 255 yX9_many ∈ gd := gd_t 787 ⟨rfl, rfl⟩
set_option maxRecDepth 100000 in
theorem ml_X10_256 : Cond.methodLink RX10 256 yX9_earnedBy ∈ gd := gd_t 791 ⟨rfl, rfl⟩
set_option maxRecDepth 100000 in
theorem ml_X9_61 : Cond.methodLink RX9 61 yX4_inForce ∈ gd := gd_t 795 ⟨rfl, rfl⟩
set_option maxRecDepth 100000 in
theorem ml_X9_69 : Cond.methodLink RX9 69 yX5_valueOf ∈ gd := gd_t 796 ⟨rfl, rfl⟩
set_option maxRecDepth 100000 in
theorem ml_X9_72 : Cond.methodLink RX9 72 yJ9_min_7cf53 ∈ gd := gd_t 797 ⟨rfl, rfl⟩
set_option maxRecDepth 100000 in
theorem ml_X9_75 : Cond.methodLink RX9 75 yX4_sumOf ∈ gd := gd_t 800 ⟨rfl, rfl⟩
set_option maxRecDepth 100000 in
theorem ml_X9_78 : Cond.methodLink RX9 78 yX9_learnersMore ∈ gd := gd_t 801 ⟨rfl, rfl⟩
set_option maxRecDepth 100000 in
theorem ml_X10_259 : Cond.methodLink RX10 259 yX3_tellOf ∈ gd := gd_t 810 ⟨rfl, rfl⟩
set_option maxRecDepth 100000 in
theorem ml_X3_23 : Cond.methodLink RX3 23 yX9_earnedIn ∈ gd := gd_t 814 ⟨rfl, rfl⟩
set_option maxRecDepth 100000 in
theorem ml_X9_81 : Cond.methodLink RX9 81 yX9_earnedBy ∈ gd := gd_t 818 ⟨rfl, rfl⟩
set_option maxRecDepth 100000 in
theorem ml_X3_29 : Cond.methodLink RX3 29 yX3_forWaiting ∈ gd := gd_t 819 ⟨rfl, rfl⟩
set_option maxRecDepth 100000 in
theorem ml_X3_35 : Cond.methodLink RX3 35 yX7_minutesIn ∈ gd := gd_t 823 ⟨rfl, rfl⟩
set_option maxRecDepth 100000 in
theorem ml_X3_43 : Cond.methodLink RX3 43 yX5_valueOf ∈ gd := gd_t 827 ⟨rfl, rfl⟩
set_option maxRecDepth 100000 in
theorem ml_X3_32 : Cond.methodLink RX3 32 yX9_minutesIn ∈ gd := gd_t 828 ⟨rfl, rfl⟩
set_option maxRecDepth 100000 in
theorem ml_X3_38 : Cond.methodLink RX3 38 yX3_allOf ∈ gd := gd_t 832 ⟨rfl, rfl⟩
set_option maxRecDepth 100000 in
theorem ml_X3_47 : Cond.methodLink RX3 47 yJ9_max_7cf53 ∈ gd := gd_t 836 ⟨rfl, rfl⟩
set_option maxRecDepth 100000 in
theorem ml_X10_262 : Cond.methodLink RX10 262 yX7_minutesFor ∈ gd := gd_t 841 ⟨rfl, rfl⟩
set_option maxRecDepth 100000 in
theorem ml_X10_265 : Cond.methodLink RX10 265 yX10_isIn ∈ gd := gd_t 849 ⟨rfl, rfl⟩
set_option maxRecDepth 100000 in
theorem ml_X10_268 : Cond.methodLink RX10 268 yX3_shareOf ∈ gd := gd_t 852 ⟨rfl, rfl⟩
set_option maxRecDepth 100000 in
theorem ml_X10_271 : Cond.methodLink RX10 271 yX10_orNone ∈ gd := gd_t 857 ⟨rfl, rfl⟩
set_option maxRecDepth 100000 in
theorem ml_X10_274 : Cond.methodLink RX10 274 yX0_survey ∈ gd := gd_t 865 ⟨rfl, rfl⟩
set_option maxRecDepth 100000 in
theorem ml_X0_26 : Cond.methodLink RX0 26 yJ7_fill_d0a16 ∈ gd := gd_t 869 ⟨rfl, rfl⟩
set_option maxRecDepth 100000 in
theorem ml_X0_32 : Cond.methodLink RX0 32 yJ7_fill_53178 ∈ gd := gd_t 872 ⟨rfl, rfl⟩
set_option maxRecDepth 100000 in
theorem ml_X0_35 : Cond.methodLink RX0 35 yX9_many ∈ gd := gd_t 873 ⟨rfl, rfl⟩
set_option maxRecDepth 100000 in
theorem ml_X0_41 : Cond.methodLink RX0 41 yX9_workerAt ∈ gd := gd_t 874 ⟨rfl, rfl⟩
set_option maxRecDepth 100000 in
theorem ml_X0_45 : Cond.methodLink RX0 45 yX9_jobAt ∈ gd := gd_t 878 ⟨rfl, rfl⟩
set_option maxRecDepth 100000 in
theorem ml_X0_48 : Cond.methodLink RX0 48 yX9_earnedBy ∈ gd := gd_t 882 ⟨rfl, rfl⟩
set_option maxRecDepth 100000 in
theorem ml_X0_51 : Cond.methodLink RX0 51 yX9_minutesAt ∈ gd := gd_t 883 ⟨rfl, rfl⟩
set_option maxRecDepth 100000 in
theorem ml_X10_277 : Cond.methodLink RX10 277 yX0_efficiencyOf ∈ gd := gd_t 887 ⟨rfl, rfl⟩
set_option maxRecDepth 100000 in
theorem ml_X10_280 : Cond.methodLink RX10 280 yX0_isLooser ∈ gd := gd_t 896 ⟨rfl, rfl⟩
set_option maxRecDepth 100000 in
theorem ml_X0_56 : Cond.methodLink RX0 56 yX0_efficiencyOf ∈ gd := gd_t 900 ⟨rfl, rfl⟩
set_option maxRecDepth 100000 in
theorem ml_X0_60 : Cond.methodLink RX0 60 yX0_waysToChoose ∈ gd := gd_t 901 ⟨rfl, rfl⟩
set_option maxRecDepth 100000 in
theorem ml_X10_283 : Cond.methodLink RX10 283 yX0_jobAt ∈ gd := gd_t 908 ⟨rfl, rfl⟩
set_option maxRecDepth 100000 in
theorem ml_X0_63 : Cond.methodLink RX0 63 yX0_reckonScores ∈ gd := gd_t 912 ⟨rfl, rfl⟩
set_option maxRecDepth 100000 in
theorem ml_X0_73 : Cond.methodLink RX0 73 yX0_isLooser ∈ gd := gd_t 916 ⟨rfl, rfl⟩
set_option maxRecDepth 100000 in
theorem ml_X0_66 : Cond.methodLink RX0 66 yX0_hasRows ∈ gd := gd_t 917 ⟨rfl, rfl⟩
set_option maxRecDepth 100000 in
theorem ml_X0_70 : Cond.methodLink RX0 70 yX0_manyAhead ∈ gd := gd_t 921 ⟨rfl, rfl⟩
set_option maxRecDepth 100000 in
theorem ml_X10_286 : Cond.methodLink RX10 286 yX6_gather ∈ gd := gd_t 929 ⟨rfl, rfl⟩
set_option maxRecDepth 100000 in
theorem ml_X6_33 : Cond.methodLink RX6 33 yX9_many ∈ gd := gd_t 933 ⟨rfl, rfl⟩
set_option maxRecDepth 100000 in
theorem ml_X6_38 : Cond.methodLink RX6 38 yX9_workerAt ∈ gd := gd_t 934 ⟨rfl, rfl⟩
set_option maxRecDepth 100000 in
theorem ml_X6_42 : Cond.methodLink RX6 42 yX9_jobAt ∈ gd := gd_t 935 ⟨rfl, rfl⟩
set_option maxRecDepth 100000 in
theorem ml_X6_45 : Cond.methodLink RX6 45 yX9_goodAt ∈ gd := gd_t 936 ⟨rfl, rfl⟩
set_option maxRecDepth 100000 in
theorem ml_X6_48 : Cond.methodLink RX6 48 yX9_minutesAt ∈ gd := gd_t 940 ⟨rfl, rfl⟩
set_option maxRecDepth 100000 in
theorem ml_X6_51 : Cond.methodLink RX6 51 yX9_isWatched ∈ gd := gd_t 941 ⟨rfl, rfl⟩
set_option maxRecDepth 100000 in
theorem ml_X10_289 : Cond.methodLink RX10 289 yX6_canTell ∈ gd := gd_t 945 ⟨rfl, rfl⟩
set_option maxRecDepth 100000 in
theorem ml_X10_292 : Cond.methodLink RX10 292 yX6_isBeyondDoubt ∈ gd := gd_t 949 ⟨rfl, rfl⟩
set_option maxRecDepth 100000 in
theorem ml_X6_55 : Cond.methodLink RX6 55 yX6_countWays ∈ gd := gd_t 953 ⟨rfl, rfl⟩
set_option maxRecDepth 100000 in
theorem ml_X6_64 : Cond.methodLink RX6 64 yJ7_fill_53178 ∈ gd := gd_t 957 ⟨rfl, rfl⟩
set_option maxRecDepth 100000 in
theorem ml_X6_61 : Cond.methodLink RX6 61 yX6_rankOf ∈ gd := gd_t 958 ⟨rfl, rfl⟩
set_option maxRecDepth 100000 in
theorem ml_X6_70 : Cond.methodLink RX6 70 yJ9_min_7cf53 ∈ gd := gd_t 962 ⟨rfl, rfl⟩
set_option maxRecDepth 100000 in
theorem ml_X6_76 : Cond.methodLink RX6 76 yX6_addRow ∈ gd := gd_t 963 ⟨rfl, rfl⟩
set_option maxRecDepth 100000 in
theorem ml_X6_58 : Cond.methodLink RX6 58 yX6_watchedRanks ∈ gd := gd_t 967 ⟨rfl, rfl⟩
set_option maxRecDepth 100000 in
theorem ml_X10_298 : Cond.methodLink RX10 298 yX3_allOf ∈ gd := gd_t 979 ⟨rfl, rfl⟩
set_option maxRecDepth 100000 in
theorem ml_X10_301 : Cond.methodLink RX10 301 yX1_many ∈ gd := gd_t 984 ⟨rfl, rfl⟩
set_option maxRecDepth 100000 in
theorem ml_X10_302 : Cond.methodLink RX10 302 yX8_filmMany ∈ gd := gd_t 988 ⟨rfl, rfl⟩
set_option maxRecDepth 100000 in
theorem ml_X10_305 : Cond.methodLink RX10 305 yX4_many ∈ gd := gd_t 992 ⟨rfl, rfl⟩
set_option maxRecDepth 100000 in
theorem ml_X10_306 : Cond.methodLink RX10 306 yX7_many ∈ gd := gd_t 996 ⟨rfl, rfl⟩
set_option maxRecDepth 100000 in
theorem ml_X10_307 : Cond.methodLink RX10 307 yX5_byteMany ∈ gd := gd_t 1000 ⟨rfl, rfl⟩
set_option maxRecDepth 100000 in
theorem ml_X11_133 : Cond.methodLink RX11 133 yX11_isIn ∈ gd := gd_t 1166 ⟨rfl, rfl⟩
set_option maxRecDepth 100000 in
theorem ml_X11_137 : Cond.methodLink RX11 137 yX11_finding ∈ gd := gd_t 1169 ⟨rfl, rfl⟩
set_option maxRecDepth 100000 in
theorem ml_X11_141 : Cond.methodLink RX11 141 yX11_isElement ∈ gd := gd_t 1178 ⟨rfl, rfl⟩
set_option maxRecDepth 100000 in
theorem ml_X11_145 : Cond.methodLink RX11 145 yX11_allowanceOf ∈ gd := gd_t 1182 ⟨rfl, rfl⟩
set_option maxRecDepth 100000 in
theorem ml_X11_148 : Cond.methodLink RX11 148 yX11_isPace ∈ gd := gd_t 1194 ⟨rfl, rfl⟩
set_option maxRecDepth 100000 in
theorem ml_X11_154 : Cond.methodLink RX11 154 yX11_habitOf ∈ gd := gd_t 1201 ⟨rfl, rfl⟩
set_option maxRecDepth 100000 in
theorem ml_X11_160 : Cond.methodLink RX11 160 yX11_normalOf ∈ gd := gd_t 1213 ⟨rfl, rfl⟩
set_option maxRecDepth 100000 in
theorem ml_X11_167 : Cond.methodLink RX11 167 yX11_cyclesOf ∈ gd := gd_t 1221 ⟨rfl, rfl⟩
set_option maxRecDepth 100000 in
theorem ml_X11_170 : Cond.methodLink RX11 170 yX11_standardOf ∈ gd := gd_t 1225 ⟨rfl, rfl⟩
set_option maxRecDepth 100000 in
theorem ml_X11_163 : Cond.methodLink RX11 163 yX11_keptOf ∈ gd := gd_t 1229 ⟨rfl, rfl⟩
set_option maxRecDepth 100000 in
theorem ml_X11_176 : Cond.methodLink RX11 176 yX11_isJob ∈ gd := gd_t 1241 ⟨rfl, rfl⟩
set_option maxRecDepth 100000 in
theorem ml_X11_179 : Cond.methodLink RX11 179 yX11_latestOf ∈ gd := gd_t 1245 ⟨rfl, rfl⟩
set_option maxRecDepth 100000 in
theorem ml_X11_188 : Cond.methodLink RX11 188 yX11_make ∈ gd := gd_t 1253 ⟨rfl, rfl⟩
set_option maxRecDepth 100000 in
theorem ml_X11_182 : Cond.methodLink RX11 182 yX11_sumOf ∈ gd := gd_t 1257 ⟨rfl, rfl⟩
set_option maxRecDepth 100000 in
theorem ml_X11_192 : Cond.methodLink RX11 192 yX11_isWeek ∈ gd := gd_t 1273 ⟨rfl, rfl⟩
set_option maxRecDepth 100000 in
theorem ml_X11_195 : Cond.methodLink RX11 195 yX11_forceOf ∈ gd := gd_t 1276 ⟨rfl, rfl⟩
set_option maxRecDepth 100000 in
theorem ml_X11_214 : Cond.methodLink RX11 214 yX11_readAll ∈ gd := gd_t 1296 ⟨rfl, rfl⟩
set_option maxRecDepth 100000 in
theorem ml_X11_211 : Cond.methodLink RX11 211 yX11_wordHere ∈ gd := gd_t 1300 ⟨rfl, rfl⟩
set_option maxRecDepth 100000 in
theorem ml_X11_207 : Cond.methodLink RX11 207 yX11_here ∈ gd := gd_t 1306 ⟨rfl, rfl⟩
set_option maxRecDepth 100000 in
theorem ml_X11_217 : Cond.methodLink RX11 217 yX11_isWorker ∈ gd := gd_t 1318 ⟨rfl, rfl⟩
set_option maxRecDepth 100000 in
theorem ml_X11_227 : Cond.methodLink RX11 227 yX11_earnedBy ∈ gd := gd_t 1334 ⟨rfl, rfl⟩
set_option maxRecDepth 100000 in
theorem ml_X11_230 : Cond.methodLink RX11 230 yX11_payOf ∈ gd := gd_t 1342 ⟨rfl, rfl⟩
set_option maxRecDepth 100000 in
theorem ml_X11_235 : Cond.methodLink RX11 235 yX11_efficiencyOf ∈ gd := gd_t 1358 ⟨rfl, rfl⟩
set_option maxRecDepth 100000 in
theorem ml_X11_241 : Cond.methodLink RX11 241 yX11_isLooser ∈ gd := gd_t 1367 ⟨rfl, rfl⟩
set_option maxRecDepth 100000 in
theorem ml_X11_238 : Cond.methodLink RX11 238 yX11_ones ∈ gd := gd_t 1371 ⟨rfl, rfl⟩
set_option maxRecDepth 100000 in
theorem nl_X1_22 : Cond.methodLinkNest RX1 22 yX10_isWithin "BenchTimes" ∈ nestW := List.mem_of_getElem? (i := 0) rfl
set_option maxRecDepth 100000 in
theorem nl_X2_29 : Cond.methodLinkNest RX2 29 yX10_isWithin "BenchTimes" ∈ nestW := List.mem_of_getElem? (i := 1) rfl
set_option maxRecDepth 100000 in
theorem nl_X5_80 : Cond.methodLinkNest RX5 80 yX10_isWithin "BenchTimes" ∈ nestW := List.mem_of_getElem? (i := 2) rfl
set_option maxRecDepth 100000 in
theorem nl_X9_84 : Cond.methodLinkNest RX9 84 yX10_isWithin "BenchTimes" ∈ nestW := List.mem_of_getElem? (i := 3) rfl
set_option maxRecDepth 100000 in
theorem nl_X3_52 : Cond.methodLinkNest RX3 52 yX10_isIn "BenchTimes" ∈ nestW := List.mem_of_getElem? (i := 4) rfl
set_option maxRecDepth 100000 in
theorem mb_J0_charAt_5068e : MB yJ0_charAt_5068e cJ0_charAt_5068e 2 (some .char) 1 := ⟨gd_t 15 ⟨rfl, rfl⟩, gd_t 683 ⟨rfl, rfl⟩, by decide +kernel, by decide +kernel, by decide +kernel⟩
set_option maxRecDepth 100000 in
theorem mi_J0_charAt_5068e : MI yJ0_charAt_5068e := ⟨gd_t 681 ⟨rfl, rfl⟩, gd_t 682 ⟨rfl, rfl⟩⟩
set_option maxRecDepth 100000 in
theorem mb_J0_checkIndex_df160 : MB yJ0_checkIndex_df160 cJ0_checkIndex_df160 2 none 2 := ⟨gd_t 15 ⟨rfl, rfl⟩, gd_t 693 ⟨rfl, rfl⟩, by decide +kernel, by decide +kernel, by decide +kernel⟩
set_option maxRecDepth 100000 in
theorem ms_J0_checkIndex_df160 : Cond.static yJ0_checkIndex_df160 ∈ gd := gd_t 692 ⟨rfl, rfl⟩
set_option maxRecDepth 100000 in
theorem mb_J0_coder_7d493 : MB yJ0_coder_7d493 cJ0_coder_7d493 1 (some .byte) 0 := ⟨gd_t 15 ⟨rfl, rfl⟩, gd_t 677 ⟨rfl, rfl⟩, by decide +kernel, by decide +kernel, by decide +kernel⟩
set_option maxRecDepth 100000 in
theorem mi_J0_coder_7d493 : MI yJ0_coder_7d493 := ⟨gd_t 675 ⟨rfl, rfl⟩, gd_t 676 ⟨rfl, rfl⟩⟩
set_option maxRecDepth 100000 in
theorem mb_J0_isLatin1_aae02 : MB yJ0_isLatin1_aae02 cJ0_isLatin1_aae02 1 (some .boolean) 0 := ⟨gd_t 15 ⟨rfl, rfl⟩, gd_t 687 ⟨rfl, rfl⟩, by decide +kernel, by decide +kernel, by decide +kernel⟩
set_option maxRecDepth 100000 in
theorem mi_J0_isLatin1_aae02 : MI yJ0_isLatin1_aae02 := ⟨gd_t 685 ⟨rfl, rfl⟩, gd_t 686 ⟨rfl, rfl⟩⟩
set_option maxRecDepth 100000 in
theorem mb_J0_length_8abf5 : MB yJ0_length_8abf5 cJ0_length_8abf5 1 (some .int) 0 := ⟨gd_t 15 ⟨rfl, rfl⟩, gd_t 673 ⟨rfl, rfl⟩, by decide +kernel, by decide +kernel, by decide +kernel⟩
set_option maxRecDepth 100000 in
theorem mi_J0_length_8abf5 : MI yJ0_length_8abf5 := ⟨gd_t 671 ⟨rfl, rfl⟩, gd_t 672 ⟨rfl, rfl⟩⟩
set_option maxRecDepth 100000 in
theorem mb_J1_charAt_3b067 : MB yJ1_charAt_3b067 cJ1_charAt_3b067 2 (some .char) 2 := ⟨gd_t 16 ⟨rfl, rfl⟩, gd_t 690 ⟨rfl, rfl⟩, by decide +kernel, by decide +kernel, by decide +kernel⟩
set_option maxRecDepth 100000 in
theorem ms_J1_charAt_3b067 : Cond.static yJ1_charAt_3b067 ∈ gd := gd_t 689 ⟨rfl, rfl⟩
set_option maxRecDepth 100000 in
theorem mb_J2_charAt_3b067 : MB yJ2_charAt_3b067 cJ2_charAt_3b067 2 (some .char) 2 := ⟨gd_t 18 ⟨rfl, rfl⟩, gd_t 701 ⟨rfl, rfl⟩, by decide +kernel, by decide +kernel, by decide +kernel⟩
set_option maxRecDepth 100000 in
theorem ms_J2_charAt_3b067 : Cond.static yJ2_charAt_3b067 ∈ gd := gd_t 700 ⟨rfl, rfl⟩
set_option maxRecDepth 100000 in
theorem mb_J2_checkIndex_2214a : MB yJ2_checkIndex_2214a cJ2_checkIndex_2214a 2 none 2 := ⟨gd_t 18 ⟨rfl, rfl⟩, gd_t 704 ⟨rfl, rfl⟩, by decide +kernel, by decide +kernel, by decide +kernel⟩
set_option maxRecDepth 100000 in
theorem ms_J2_checkIndex_2214a : Cond.static yJ2_checkIndex_2214a ∈ gd := gd_t 703 ⟨rfl, rfl⟩
set_option maxRecDepth 100000 in
theorem mb_J2_getChar_3b067 : MB yJ2_getChar_3b067 cJ2_getChar_3b067 2 (some .char) 2 := ⟨gd_t 18 ⟨rfl, rfl⟩, gd_t 711 ⟨rfl, rfl⟩, by decide +kernel, by decide +kernel, by decide +kernel⟩
set_option maxRecDepth 100000 in
theorem ms_J2_getChar_3b067 : Cond.static yJ2_getChar_3b067 ∈ gd := gd_t 710 ⟨rfl, rfl⟩
set_option maxRecDepth 100000 in
theorem mb_J2_length_9d52b : MB yJ2_length_9d52b cJ2_length_9d52b 1 (some .int) 1 := ⟨gd_t 18 ⟨rfl, rfl⟩, gd_t 707 ⟨rfl, rfl⟩, by decide +kernel, by decide +kernel, by decide +kernel⟩
set_option maxRecDepth 100000 in
theorem ms_J2_length_9d52b : Cond.static yJ2_length_9d52b ∈ gd := gd_t 706 ⟨rfl, rfl⟩
set_option maxRecDepth 100000 in
theorem mb_J3_checkIndex_8e157 : MB yJ3_checkIndex_8e157 cJ3_checkIndex_8e157 3 (some .int) 3 := ⟨gd_t 17 ⟨rfl, rfl⟩, gd_t 698 ⟨rfl, rfl⟩, by decide +kernel, by decide +kernel, by decide +kernel⟩
set_option maxRecDepth 100000 in
theorem ms_J3_checkIndex_8e157 : Cond.static yJ3_checkIndex_8e157 ∈ gd := gd_t 697 ⟨rfl, rfl⟩
set_option maxRecDepth 100000 in
theorem mb_J7_fill_53178 : MB yJ7_fill_53178 cJ7_fill_53178 4 none 2 := ⟨gd_t 8 ⟨rfl, rfl⟩, gd_t 183 ⟨rfl, rfl⟩, by decide +kernel, by decide +kernel, by decide +kernel⟩
set_option maxRecDepth 100000 in
theorem ms_J7_fill_53178 : Cond.static yJ7_fill_53178 ∈ gd := gd_t 182 ⟨rfl, rfl⟩
set_option maxRecDepth 100000 in
theorem mb_J7_fill_d0a16 : MB yJ7_fill_d0a16 cJ7_fill_d0a16 5 none 2 := ⟨gd_t 8 ⟨rfl, rfl⟩, gd_t 871 ⟨rfl, rfl⟩, by decide +kernel, by decide +kernel, by decide +kernel⟩
set_option maxRecDepth 100000 in
theorem ms_J7_fill_d0a16 : Cond.static yJ7_fill_d0a16 ∈ gd := gd_t 870 ⟨rfl, rfl⟩
set_option maxRecDepth 100000 in
theorem mb_J9_abs_0f7a4 : MB yJ9_abs_0f7a4 cJ9_abs_0f7a4 1 (some .int) 1 := ⟨gd_t 14 ⟨rfl, rfl⟩, gd_t 477 ⟨rfl, rfl⟩, by decide +kernel, by decide +kernel, by decide +kernel⟩
set_option maxRecDepth 100000 in
theorem ms_J9_abs_0f7a4 : Cond.static yJ9_abs_0f7a4 ∈ gd := gd_t 476 ⟨rfl, rfl⟩
set_option maxRecDepth 100000 in
theorem mb_J9_max_7cf53 : MB yJ9_max_7cf53 cJ9_max_7cf53 2 (some .int) 2 := ⟨gd_t 14 ⟨rfl, rfl⟩, gd_t 449 ⟨rfl, rfl⟩, by decide +kernel, by decide +kernel, by decide +kernel⟩
set_option maxRecDepth 100000 in
theorem ms_J9_max_7cf53 : Cond.static yJ9_max_7cf53 ∈ gd := gd_t 448 ⟨rfl, rfl⟩
set_option maxRecDepth 100000 in
theorem mb_J9_min_7cf53 : MB yJ9_min_7cf53 cJ9_min_7cf53 2 (some .int) 2 := ⟨gd_t 14 ⟨rfl, rfl⟩, gd_t 799 ⟨rfl, rfl⟩, by decide +kernel, by decide +kernel, by decide +kernel⟩
set_option maxRecDepth 100000 in
theorem ms_J9_min_7cf53 : Cond.static yJ9_min_7cf53 ∈ gd := gd_t 798 ⟨rfl, rfl⟩
set_option maxRecDepth 100000 in
theorem mb_X0_efficiencyOf : MB yX0_efficiencyOf cX0_efficiencyOf 4 (some .int) 2 := ⟨gd_t 11 ⟨rfl, rfl⟩, gd_t 890 ⟨rfl, rfl⟩, by decide +kernel, by decide +kernel, by decide +kernel⟩
set_option maxRecDepth 100000 in
theorem mi_X0_efficiencyOf : MI yX0_efficiencyOf := ⟨gd_t 888 ⟨rfl, rfl⟩, gd_t 889 ⟨rfl, rfl⟩⟩
set_option maxRecDepth 100000 in
theorem mb_X0_hasRows : MB yX0_hasRows cX0_hasRows 3 (some .boolean) 1 := ⟨gd_t 11 ⟨rfl, rfl⟩, gd_t 920 ⟨rfl, rfl⟩, by decide +kernel, by decide +kernel, by decide +kernel⟩
set_option maxRecDepth 100000 in
theorem mi_X0_hasRows : MI yX0_hasRows := ⟨gd_t 919 ⟨rfl, rfl⟩, gd_p 17 ⟨rfl, rfl⟩⟩
set_option maxRecDepth 100000 in
theorem mb_X0_init : MB yX0_init cX0_init 2 none 1 := ⟨gd_t 11 ⟨rfl, rfl⟩, gd_t 260 ⟨rfl, rfl⟩, by decide +kernel, by decide +kernel, by decide +kernel⟩
set_option maxRecDepth 100000 in
theorem mb_X0_isLooser : MB yX0_isLooser cX0_isLooser 8 (some .boolean) 2 := ⟨gd_t 11 ⟨rfl, rfl⟩, gd_t 899 ⟨rfl, rfl⟩, by decide +kernel, by decide +kernel, by decide +kernel⟩
set_option maxRecDepth 100000 in
theorem mi_X0_isLooser : MI yX0_isLooser := ⟨gd_t 897 ⟨rfl, rfl⟩, gd_t 898 ⟨rfl, rfl⟩⟩
set_option maxRecDepth 100000 in
theorem mb_X0_jobAt : MB yX0_jobAt cX0_jobAt 3 (some .int) 1 := ⟨gd_t 11 ⟨rfl, rfl⟩, gd_t 911 ⟨rfl, rfl⟩, by decide +kernel, by decide +kernel, by decide +kernel⟩
set_option maxRecDepth 100000 in
theorem mi_X0_jobAt : MI yX0_jobAt := ⟨gd_t 909 ⟨rfl, rfl⟩, gd_t 910 ⟨rfl, rfl⟩⟩
set_option maxRecDepth 100000 in
theorem mb_X0_manyAhead : MB yX0_manyAhead cX0_manyAhead 5 (some .int) 1 := ⟨gd_t 11 ⟨rfl, rfl⟩, gd_t 924 ⟨rfl, rfl⟩, by decide +kernel, by decide +kernel, by decide +kernel⟩
set_option maxRecDepth 100000 in
theorem mi_X0_manyAhead : MI yX0_manyAhead := ⟨gd_t 923 ⟨rfl, rfl⟩, gd_p 18 ⟨rfl, rfl⟩⟩
set_option maxRecDepth 100000 in
theorem mb_X0_reckonScores : MB yX0_reckonScores cX0_reckonScores 3 none 0 := ⟨gd_t 11 ⟨rfl, rfl⟩, gd_t 915 ⟨rfl, rfl⟩, by decide +kernel, by decide +kernel, by decide +kernel⟩
set_option maxRecDepth 100000 in
theorem mi_X0_reckonScores : MI yX0_reckonScores := ⟨gd_t 914 ⟨rfl, rfl⟩, gd_p 16 ⟨rfl, rfl⟩⟩
set_option maxRecDepth 100000 in
theorem mb_X0_survey : MB yX0_survey cX0_survey 3 none 0 := ⟨gd_t 11 ⟨rfl, rfl⟩, gd_t 868 ⟨rfl, rfl⟩, by decide +kernel, by decide +kernel, by decide +kernel⟩
set_option maxRecDepth 100000 in
theorem mi_X0_survey : MI yX0_survey := ⟨gd_t 866 ⟨rfl, rfl⟩, gd_t 867 ⟨rfl, rfl⟩⟩
set_option maxRecDepth 100000 in
theorem mb_X0_waysToChoose : MB yX0_waysToChoose cX0_waysToChoose 5 (some .int) 2 := ⟨gd_t 11 ⟨rfl, rfl⟩, gd_t 903 ⟨rfl, rfl⟩, by decide +kernel, by decide +kernel, by decide +kernel⟩
set_option maxRecDepth 100000 in
theorem ms_X0_waysToChoose : Cond.static yX0_waysToChoose ∈ gd := gd_t 902 ⟨rfl, rfl⟩
set_option maxRecDepth 100000 in
theorem mb_X10_allow : MB yX10_allow cX10_allow 3 (some .int) 2 := ⟨gd_t 1 ⟨rfl, rfl⟩, gd_t 390 ⟨rfl, rfl⟩, by decide +kernel, by decide +kernel, by decide +kernel⟩
set_option maxRecDepth 100000 in
theorem mi_X10_allow : MI yX10_allow := ⟨gd_t 388 ⟨rfl, rfl⟩, gd_t 389 ⟨rfl, rfl⟩⟩
set_option maxRecDepth 100000 in
theorem mb_X10_as : MB yX10_as cX10_as 3 (some .int) 2 := ⟨gd_t 1 ⟨rfl, rfl⟩, gd_t 372 ⟨rfl, rfl⟩, by decide +kernel, by decide +kernel, by decide +kernel⟩
set_option maxRecDepth 100000 in
theorem mi_X10_as : MI yX10_as := ⟨gd_t 370 ⟨rfl, rfl⟩, gd_t 371 ⟨rfl, rfl⟩⟩
set_option maxRecDepth 100000 in
theorem mb_X10_cause : MB yX10_cause cX10_cause 2 (some .int) 1 := ⟨gd_t 1 ⟨rfl, rfl⟩, gd_t 840 ⟨rfl, rfl⟩, by decide +kernel, by decide +kernel, by decide +kernel⟩
set_option maxRecDepth 100000 in
theorem mi_X10_cause : MI yX10_cause := ⟨gd_t 838 ⟨rfl, rfl⟩, gd_t 839 ⟨rfl, rfl⟩⟩
set_option maxRecDepth 100000 in
theorem mb_X10_change : MB yX10_change cX10_change 5 (some .int) 1 := ⟨gd_t 1 ⟨rfl, rfl⟩, gd_t 575 ⟨rfl, rfl⟩, by decide +kernel, by decide +kernel, by decide +kernel⟩
set_option maxRecDepth 100000 in
theorem mi_X10_change : MI yX10_change := ⟨gd_t 573 ⟨rfl, rfl⟩, gd_t 574 ⟨rfl, rfl⟩⟩
set_option maxRecDepth 100000 in
theorem mb_X10_check : MB yX10_check cX10_check 4 (some .int) 1 := ⟨gd_t 1 ⟨rfl, rfl⟩, gd_t 978 ⟨rfl, rfl⟩, by decide +kernel, by decide +kernel, by decide +kernel⟩
set_option maxRecDepth 100000 in
theorem mi_X10_check : MI yX10_check := ⟨gd_t 976 ⟨rfl, rfl⟩, gd_t 977 ⟨rfl, rfl⟩⟩
set_option maxRecDepth 100000 in
theorem mb_X10_count : MB yX10_count cX10_count 2 (some .int) 1 := ⟨gd_t 1 ⟨rfl, rfl⟩, gd_t 983 ⟨rfl, rfl⟩, by decide +kernel, by decide +kernel, by decide +kernel⟩
set_option maxRecDepth 100000 in
theorem mi_X10_count : MI yX10_count := ⟨gd_t 981 ⟨rfl, rfl⟩, gd_t 982 ⟨rfl, rfl⟩⟩
set_option maxRecDepth 100000 in
theorem mb_X10_cycle : MB yX10_cycle cX10_cycle 5 (some .int) 4 := ⟨gd_t 1 ⟨rfl, rfl⟩, gd_t 425 ⟨rfl, rfl⟩, by decide +kernel, by decide +kernel, by decide +kernel⟩
set_option maxRecDepth 100000 in
theorem mi_X10_cycle : MI yX10_cycle := ⟨gd_t 423 ⟨rfl, rfl⟩, gd_t 424 ⟨rfl, rfl⟩⟩
set_option maxRecDepth 100000 in
theorem mb_X10_earned : MB yX10_earned cX10_earned 2 (some .int) 1 := ⟨gd_t 1 ⟨rfl, rfl⟩, gd_t 786 ⟨rfl, rfl⟩, by decide +kernel, by decide +kernel, by decide +kernel⟩
set_option maxRecDepth 100000 in
theorem mi_X10_earned : MI yX10_earned := ⟨gd_t 784 ⟨rfl, rfl⟩, gd_t 785 ⟨rfl, rfl⟩⟩
set_option maxRecDepth 100000 in
theorem mb_X10_efficiency : MB yX10_efficiency cX10_efficiency 3 (some .int) 2 := ⟨gd_t 1 ⟨rfl, rfl⟩, gd_t 864 ⟨rfl, rfl⟩, by decide +kernel, by decide +kernel, by decide +kernel⟩
set_option maxRecDepth 100000 in
theorem mi_X10_efficiency : MI yX10_efficiency := ⟨gd_t 862 ⟨rfl, rfl⟩, gd_t 863 ⟨rfl, rfl⟩⟩
set_option maxRecDepth 100000 in
theorem mb_X10_element : MB yX10_element cX10_element 2 (some .int) 1 := ⟨gd_t 1 ⟨rfl, rfl⟩, gd_t 349 ⟨rfl, rfl⟩, by decide +kernel, by decide +kernel, by decide +kernel⟩
set_option maxRecDepth 100000 in
theorem mi_X10_element : MI yX10_element := ⟨gd_t 347 ⟨rfl, rfl⟩, gd_t 348 ⟨rfl, rfl⟩⟩
set_option maxRecDepth 100000 in
theorem mb_X10_feed : MB yX10_feed cX10_feed 2 (some .int) 1 := ⟨gd_t 1 ⟨rfl, rfl⟩, gd_t 628 ⟨rfl, rfl⟩, by decide +kernel, by decide +kernel, by decide +kernel⟩
set_option maxRecDepth 100000 in
theorem mi_X10_feed : MI yX10_feed := ⟨gd_t 626 ⟨rfl, rfl⟩, gd_t 627 ⟨rfl, rfl⟩⟩
set_option maxRecDepth 100000 in
theorem mb_X10_film : MB yX10_film cX10_film 4 (some .int) 3 := ⟨gd_t 1 ⟨rfl, rfl⟩, gd_t 399 ⟨rfl, rfl⟩, by decide +kernel, by decide +kernel, by decide +kernel⟩
set_option maxRecDepth 100000 in
theorem mi_X10_film : MI yX10_film := ⟨gd_t 397 ⟨rfl, rfl⟩, gd_t 398 ⟨rfl, rfl⟩⟩
set_option maxRecDepth 100000 in
theorem mb_X10_finding : MB yX10_finding cX10_finding 2 (some .int) 1 := ⟨gd_t 1 ⟨rfl, rfl⟩, gd_t 359 ⟨rfl, rfl⟩, by decide +kernel, by decide +kernel, by decide +kernel⟩
set_option maxRecDepth 100000 in
theorem mi_X10_finding : MI yX10_finding := ⟨gd_t 358 ⟨rfl, rfl⟩, gd_p 0 ⟨rfl, rfl⟩⟩
set_option maxRecDepth 100000 in
theorem mb_X10_found : MB yX10_found cX10_found 2 (some .int) 1 := ⟨gd_t 1 ⟨rfl, rfl⟩, gd_t 1007 ⟨rfl, rfl⟩, by decide +kernel, by decide +kernel, by decide +kernel⟩
set_option maxRecDepth 100000 in
theorem mi_X10_found : MI yX10_found := ⟨gd_t 1005 ⟨rfl, rfl⟩, gd_t 1006 ⟨rfl, rfl⟩⟩
set_option maxRecDepth 100000 in
theorem mb_X10_habit : MB yX10_habit cX10_habit 2 (some .int) 1 := ⟨gd_t 1 ⟨rfl, rfl⟩, gd_t 417 ⟨rfl, rfl⟩, by decide +kernel, by decide +kernel, by decide +kernel⟩
set_option maxRecDepth 100000 in
theorem mi_X10_habit : MI yX10_habit := ⟨gd_t 415 ⟨rfl, rfl⟩, gd_t 416 ⟨rfl, rfl⟩⟩
set_option maxRecDepth 100000 in
theorem mb_X10_init : MB yX10_init cX10_init 1 none 0 := ⟨gd_t 1 ⟨rfl, rfl⟩, gd_t 23 ⟨rfl, rfl⟩, by decide +kernel, by decide +kernel, by decide +kernel⟩
set_option maxRecDepth 100000 in
theorem mb_X10_isCause : MB yX10_isCause cX10_isCause 1 (some .boolean) 1 := ⟨gd_t 1 ⟨rfl, rfl⟩, gd_t 766 ⟨rfl, rfl⟩, by decide +kernel, by decide +kernel, by decide +kernel⟩
set_option maxRecDepth 100000 in
theorem ms_X10_isCause : Cond.static yX10_isCause ∈ gd := gd_t 765 ⟨rfl, rfl⟩
set_option maxRecDepth 100000 in
theorem mb_X10_isIn : MB yX10_isIn cX10_isIn 2 (some .boolean) 2 := ⟨gd_t 1 ⟨rfl, rfl⟩, gd_t 851 ⟨rfl, rfl⟩, by decide +kernel, by decide +kernel, by decide +kernel⟩
set_option maxRecDepth 100000 in
theorem ms_X10_isIn : Cond.static yX10_isIn ∈ gd := gd_t 850 ⟨rfl, rfl⟩
set_option maxRecDepth 100000 in
theorem mb_X10_isOn : MB yX10_isOn cX10_isOn 2 (some .boolean) 1 := ⟨gd_t 1 ⟨rfl, rfl⟩, gd_t 746 ⟨rfl, rfl⟩, by decide +kernel, by decide +kernel, by decide +kernel⟩
set_option maxRecDepth 100000 in
theorem mi_X10_isOn : MI yX10_isOn := ⟨gd_t 745 ⟨rfl, rfl⟩, gd_p 12 ⟨rfl, rfl⟩⟩
set_option maxRecDepth 100000 in
theorem mb_X10_isPace : MB yX10_isPace cX10_isPace 1 (some .boolean) 1 := ⟨gd_t 1 ⟨rfl, rfl⟩, gd_t 405 ⟨rfl, rfl⟩, by decide +kernel, by decide +kernel, by decide +kernel⟩
set_option maxRecDepth 100000 in
theorem ms_X10_isPace : Cond.static yX10_isPace ∈ gd := gd_t 404 ⟨rfl, rfl⟩
set_option maxRecDepth 100000 in
theorem mb_X10_isRater : MB yX10_isRater cX10_isRater 1 (some .boolean) 1 := ⟨gd_t 1 ⟨rfl, rfl⟩, gd_t 402 ⟨rfl, rfl⟩, by decide +kernel, by decide +kernel, by decide +kernel⟩
set_option maxRecDepth 100000 in
theorem ms_X10_isRater : Cond.static yX10_isRater ∈ gd := gd_t 401 ⟨rfl, rfl⟩
set_option maxRecDepth 100000 in
theorem mb_X10_isWeek : MB yX10_isWeek cX10_isWeek 1 (some .boolean) 1 := ⟨gd_t 1 ⟨rfl, rfl⟩, gd_t 607 ⟨rfl, rfl⟩, by decide +kernel, by decide +kernel, by decide +kernel⟩
set_option maxRecDepth 100000 in
theorem ms_X10_isWeek : Cond.static yX10_isWeek ∈ gd := gd_t 606 ⟨rfl, rfl⟩
set_option maxRecDepth 100000 in
theorem mb_X10_isWithin : MB yX10_isWithin cX10_isWithin 3 (some .boolean) 3 := ⟨gd_t 1 ⟨rfl, rfl⟩, gd_t 355 ⟨rfl, rfl⟩, by decide +kernel, by decide +kernel, by decide +kernel⟩
set_option maxRecDepth 100000 in
theorem ms_X10_isWithin : Cond.static yX10_isWithin ∈ gd := gd_t 354 ⟨rfl, rfl⟩
set_option maxRecDepth 100000 in
theorem mb_X10_isWorker : MB yX10_isWorker cX10_isWorker 1 (some .boolean) 1 := ⟨gd_t 1 ⟨rfl, rfl⟩, gd_t 749 ⟨rfl, rfl⟩, by decide +kernel, by decide +kernel, by decide +kernel⟩
set_option maxRecDepth 100000 in
theorem ms_X10_isWorker : Cond.static yX10_isWorker ∈ gd := gd_t 748 ⟨rfl, rfl⟩
set_option maxRecDepth 100000 in
theorem mb_X10_job : MB yX10_job cX10_job 1 (some .int) 0 := ⟨gd_t 1 ⟨rfl, rfl⟩, gd_t 486 ⟨rfl, rfl⟩, by decide +kernel, by decide +kernel, by decide +kernel⟩
set_option maxRecDepth 100000 in
theorem mi_X10_job : MI yX10_job := ⟨gd_t 484 ⟨rfl, rfl⟩, gd_t 485 ⟨rfl, rfl⟩⟩
set_option maxRecDepth 100000 in
theorem mb_X10_learner : MB yX10_learner cX10_learner 4 (some .int) 3 := ⟨gd_t 1 ⟨rfl, rfl⟩, gd_t 778 ⟨rfl, rfl⟩, by decide +kernel, by decide +kernel, by decide +kernel⟩
set_option maxRecDepth 100000 in
theorem mi_X10_learner : MI yX10_learner := ⟨gd_t 776 ⟨rfl, rfl⟩, gd_t 777 ⟨rfl, rfl⟩⟩
set_option maxRecDepth 100000 in
theorem mb_X10_looser : MB yX10_looser cX10_looser 3 (some .int) 2 := ⟨gd_t 1 ⟨rfl, rfl⟩, gd_t 895 ⟨rfl, rfl⟩, by decide +kernel, by decide +kernel, by decide +kernel⟩
set_option maxRecDepth 100000 in
theorem mi_X10_looser : MI yX10_looser := ⟨gd_t 893 ⟨rfl, rfl⟩, gd_t 894 ⟨rfl, rfl⟩⟩
set_option maxRecDepth 100000 in
theorem mb_X10_move : MB yX10_move cX10_move 4 (some .int) 1 := ⟨gd_t 1 ⟨rfl, rfl⟩, gd_t 587 ⟨rfl, rfl⟩, by decide +kernel, by decide +kernel, by decide +kernel⟩
set_option maxRecDepth 100000 in
theorem mi_X10_move : MI yX10_move := ⟨gd_t 585 ⟨rfl, rfl⟩, gd_t 586 ⟨rfl, rfl⟩⟩
set_option maxRecDepth 100000 in
theorem mb_X10_newRate : MB yX10_newRate cX10_newRate 3 (some .int) 2 := ⟨gd_t 1 ⟨rfl, rfl⟩, gd_t 531 ⟨rfl, rfl⟩, by decide +kernel, by decide +kernel, by decide +kernel⟩
set_option maxRecDepth 100000 in
theorem mi_X10_newRate : MI yX10_newRate := ⟨gd_t 530 ⟨rfl, rfl⟩, gd_p 4 ⟨rfl, rfl⟩⟩
set_option maxRecDepth 100000 in
theorem mb_X10_normal : MB yX10_normal cX10_normal 2 (some .int) 1 := ⟨gd_t 1 ⟨rfl, rfl⟩, gd_t 437 ⟨rfl, rfl⟩, by decide +kernel, by decide +kernel, by decide +kernel⟩
set_option maxRecDepth 100000 in
theorem mi_X10_normal : MI yX10_normal := ⟨gd_t 435 ⟨rfl, rfl⟩, gd_t 436 ⟨rfl, rfl⟩⟩
set_option maxRecDepth 100000 in
theorem mb_X10_of : MB yX10_of cX10_of 3 (some .int) 2 := ⟨gd_t 1 ⟨rfl, rfl⟩, gd_t 453 ⟨rfl, rfl⟩, by decide +kernel, by decide +kernel, by decide +kernel⟩
set_option maxRecDepth 100000 in
theorem mi_X10_of : MI yX10_of := ⟨gd_t 451 ⟨rfl, rfl⟩, gd_t 452 ⟨rfl, rfl⟩⟩
set_option maxRecDepth 100000 in
theorem mb_X10_orNone : MB yX10_orNone cX10_orNone 2 (some .int) 1 := ⟨gd_t 1 ⟨rfl, rfl⟩, gd_t 860 ⟨rfl, rfl⟩, by decide +kernel, by decide +kernel, by decide +kernel⟩
set_option maxRecDepth 100000 in
theorem mi_X10_orNone : MI yX10_orNone := ⟨gd_t 859 ⟨rfl, rfl⟩, gd_p 15 ⟨rfl, rfl⟩⟩
set_option maxRecDepth 100000 in
theorem mb_X10_order : MB yX10_order cX10_order 2 (some .int) 1 := ⟨gd_t 1 ⟨rfl, rfl⟩, gd_t 907 ⟨rfl, rfl⟩, by decide +kernel, by decide +kernel, by decide +kernel⟩
set_option maxRecDepth 100000 in
theorem mi_X10_order : MI yX10_order := ⟨gd_t 905 ⟨rfl, rfl⟩, gd_t 906 ⟨rfl, rfl⟩⟩
set_option maxRecDepth 100000 in
theorem mb_X10_part : MB yX10_part cX10_part 4 (some .int) 3 := ⟨gd_t 1 ⟨rfl, rfl⟩, gd_t 498 ⟨rfl, rfl⟩, by decide +kernel, by decide +kernel, by decide +kernel⟩
set_option maxRecDepth 100000 in
theorem mi_X10_part : MI yX10_part := ⟨gd_t 496 ⟨rfl, rfl⟩, gd_t 497 ⟨rfl, rfl⟩⟩
set_option maxRecDepth 100000 in
theorem mb_X10_pay : MB yX10_pay cX10_pay 4 (some .int) 3 := ⟨gd_t 1 ⟨rfl, rfl⟩, gd_t 809 ⟨rfl, rfl⟩, by decide +kernel, by decide +kernel, by decide +kernel⟩
set_option maxRecDepth 100000 in
theorem mi_X10_pay : MI yX10_pay := ⟨gd_t 807 ⟨rfl, rfl⟩, gd_t 808 ⟨rfl, rfl⟩⟩
set_option maxRecDepth 100000 in
theorem mb_X10_pool : MB yX10_pool cX10_pool 4 (some .int) 3 := ⟨gd_t 1 ⟨rfl, rfl⟩, gd_t 848 ⟨rfl, rfl⟩, by decide +kernel, by decide +kernel, by decide +kernel⟩
set_option maxRecDepth 100000 in
theorem mi_X10_pool : MI yX10_pool := ⟨gd_t 846 ⟨rfl, rfl⟩, gd_t 847 ⟨rfl, rfl⟩⟩
set_option maxRecDepth 100000 in
theorem mb_X10_rate : MB yX10_rate cX10_rate 4 (some .int) 2 := ⟨gd_t 1 ⟨rfl, rfl⟩, gd_t 604 ⟨rfl, rfl⟩, by decide +kernel, by decide +kernel, by decide +kernel⟩
set_option maxRecDepth 100000 in
theorem mi_X10_rate : MI yX10_rate := ⟨gd_t 602 ⟨rfl, rfl⟩, gd_t 603 ⟨rfl, rfl⟩⟩
set_option maxRecDepth 100000 in
theorem mb_X10_read : MB yX10_read cX10_read 1 (some .int) 0 := ⟨gd_t 1 ⟨rfl, rfl⟩, gd_t 640 ⟨rfl, rfl⟩, by decide +kernel, by decide +kernel, by decide +kernel⟩
set_option maxRecDepth 100000 in
theorem mi_X10_read : MI yX10_read := ⟨gd_t 638 ⟨rfl, rfl⟩, gd_t 639 ⟨rfl, rfl⟩⟩
set_option maxRecDepth 100000 in
theorem mb_X10_rule : MB yX10_rule cX10_rule 2 (some .int) 1 := ⟨gd_t 1 ⟨rfl, rfl⟩, gd_t 738 ⟨rfl, rfl⟩, by decide +kernel, by decide +kernel, by decide +kernel⟩
set_option maxRecDepth 100000 in
theorem mi_X10_rule : MI yX10_rule := ⟨gd_t 736 ⟨rfl, rfl⟩, gd_t 737 ⟨rfl, rfl⟩⟩
set_option maxRecDepth 100000 in
theorem mb_X10_set : MB yX10_set cX10_set 2 (some .int) 1 := ⟨gd_t 1 ⟨rfl, rfl⟩, gd_t 523 ⟨rfl, rfl⟩, by decide +kernel, by decide +kernel, by decide +kernel⟩
set_option maxRecDepth 100000 in
theorem mi_X10_set : MI yX10_set := ⟨gd_t 521 ⟨rfl, rfl⟩, gd_t 522 ⟨rfl, rfl⟩⟩
set_option maxRecDepth 100000 in
theorem mb_X10_slow : MB yX10_slow cX10_slow 3 (some .int) 2 := ⟨gd_t 1 ⟨rfl, rfl⟩, gd_t 928 ⟨rfl, rfl⟩, by decide +kernel, by decide +kernel, by decide +kernel⟩
set_option maxRecDepth 100000 in
theorem mi_X10_slow : MI yX10_slow := ⟨gd_t 926 ⟨rfl, rfl⟩, gd_t 927 ⟨rfl, rfl⟩⟩
set_option maxRecDepth 100000 in
theorem mb_X10_tell : MB yX10_tell cX10_tell 2 (some .int) 1 := ⟨gd_t 1 ⟨rfl, rfl⟩, gd_t 974 ⟨rfl, rfl⟩, by decide +kernel, by decide +kernel, by decide +kernel⟩
set_option maxRecDepth 100000 in
theorem mi_X10_tell : MI yX10_tell := ⟨gd_t 972 ⟨rfl, rfl⟩, gd_t 973 ⟨rfl, rfl⟩⟩
set_option maxRecDepth 100000 in
theorem mb_X10_wait : MB yX10_wait cX10_wait 5 (some .int) 4 := ⟨gd_t 1 ⟨rfl, rfl⟩, gd_t 763 ⟨rfl, rfl⟩, by decide +kernel, by decide +kernel, by decide +kernel⟩
set_option maxRecDepth 100000 in
theorem mi_X10_wait : MI yX10_wait := ⟨gd_t 761 ⟨rfl, rfl⟩, gd_t 762 ⟨rfl, rfl⟩⟩
set_option maxRecDepth 100000 in
theorem mb_X10_week : MB yX10_week cX10_week 3 (some .int) 1 := ⟨gd_t 1 ⟨rfl, rfl⟩, gd_t 624 ⟨rfl, rfl⟩, by decide +kernel, by decide +kernel, by decide +kernel⟩
set_option maxRecDepth 100000 in
theorem mi_X10_week : MI yX10_week := ⟨gd_t 622 ⟨rfl, rfl⟩, gd_t 623 ⟨rfl, rfl⟩⟩
set_option maxRecDepth 100000 in
theorem mb_X10_work : MB yX10_work cX10_work 5 (some .int) 4 := ⟨gd_t 1 ⟨rfl, rfl⟩, gd_t 742 ⟨rfl, rfl⟩, by decide +kernel, by decide +kernel, by decide +kernel⟩
set_option maxRecDepth 100000 in
theorem mi_X10_work : MI yX10_work := ⟨gd_t 740 ⟨rfl, rfl⟩, gd_t 741 ⟨rfl, rfl⟩⟩
set_option maxRecDepth 100000 in
theorem mb_X10_worth : MB yX10_worth cX10_worth 5 (some .int) 3 := ⟨gd_t 1 ⟨rfl, rfl⟩, gd_t 619 ⟨rfl, rfl⟩, by decide +kernel, by decide +kernel, by decide +kernel⟩
set_option maxRecDepth 100000 in
theorem mi_X10_worth : MI yX10_worth := ⟨gd_t 617 ⟨rfl, rfl⟩, gd_t 618 ⟨rfl, rfl⟩⟩
set_option maxRecDepth 100000 in
theorem mb_X11_allow : MB yX11_allow cX11_allow 3 (some .int) 2 := ⟨gd_t 13 ⟨rfl, rfl⟩, gd_t 1189 ⟨rfl, rfl⟩, by decide +kernel, by decide +kernel, by decide +kernel⟩
set_option maxRecDepth 100000 in
theorem mi_X11_allow : MI yX11_allow := ⟨gd_t 1187 ⟨rfl, rfl⟩, gd_t 1188 ⟨rfl, rfl⟩⟩
set_option maxRecDepth 100000 in
theorem mb_X11_allowanceOf : MB yX11_allowanceOf cX11_allowanceOf 2 (some .int) 1 := ⟨gd_t 13 ⟨rfl, rfl⟩, gd_t 1185 ⟨rfl, rfl⟩, by decide +kernel, by decide +kernel, by decide +kernel⟩
set_option maxRecDepth 100000 in
theorem mi_X11_allowanceOf : MI yX11_allowanceOf := ⟨gd_t 1184 ⟨rfl, rfl⟩, gd_p 25 ⟨rfl, rfl⟩⟩
set_option maxRecDepth 100000 in
theorem mb_X11_as : MB yX11_as cX11_as 3 (some .int) 2 := ⟨gd_t 13 ⟨rfl, rfl⟩, gd_t 1177 ⟨rfl, rfl⟩, by decide +kernel, by decide +kernel, by decide +kernel⟩
set_option maxRecDepth 100000 in
theorem mi_X11_as : MI yX11_as := ⟨gd_t 1175 ⟨rfl, rfl⟩, gd_t 1176 ⟨rfl, rfl⟩⟩
set_option maxRecDepth 100000 in
theorem mb_X11_cause : MB yX11_cause cX11_cause 4 (some .int) 1 := ⟨gd_t 13 ⟨rfl, rfl⟩, gd_t 1349 ⟨rfl, rfl⟩, by decide +kernel, by decide +kernel, by decide +kernel⟩
set_option maxRecDepth 100000 in
theorem mi_X11_cause : MI yX11_cause := ⟨gd_t 1347 ⟨rfl, rfl⟩, gd_t 1348 ⟨rfl, rfl⟩⟩
set_option maxRecDepth 100000 in
theorem mb_X11_change : MB yX11_change cX11_change 5 (some .int) 1 := ⟨gd_t 13 ⟨rfl, rfl⟩, gd_t 1264 ⟨rfl, rfl⟩, by decide +kernel, by decide +kernel, by decide +kernel⟩
set_option maxRecDepth 100000 in
theorem mi_X11_change : MI yX11_change := ⟨gd_t 1262 ⟨rfl, rfl⟩, gd_t 1263 ⟨rfl, rfl⟩⟩
set_option maxRecDepth 100000 in
theorem mb_X11_check : MB yX11_check cX11_check 4 (some .int) 1 := ⟨gd_t 13 ⟨rfl, rfl⟩, gd_t 1389 ⟨rfl, rfl⟩, by decide +kernel, by decide +kernel, by decide +kernel⟩
set_option maxRecDepth 100000 in
theorem mi_X11_check : MI yX11_check := ⟨gd_t 1387 ⟨rfl, rfl⟩, gd_t 1388 ⟨rfl, rfl⟩⟩
set_option maxRecDepth 100000 in
theorem mb_X11_count : MB yX11_count cX11_count 2 (some .int) 1 := ⟨gd_t 13 ⟨rfl, rfl⟩, gd_t 1393 ⟨rfl, rfl⟩, by decide +kernel, by decide +kernel, by decide +kernel⟩
set_option maxRecDepth 100000 in
theorem mi_X11_count : MI yX11_count := ⟨gd_t 1391 ⟨rfl, rfl⟩, gd_t 1392 ⟨rfl, rfl⟩⟩
set_option maxRecDepth 100000 in
theorem mb_X11_cycle : MB yX11_cycle cX11_cycle 5 (some .int) 4 := ⟨gd_t 13 ⟨rfl, rfl⟩, gd_t 1208 ⟨rfl, rfl⟩, by decide +kernel, by decide +kernel, by decide +kernel⟩
set_option maxRecDepth 100000 in
theorem mi_X11_cycle : MI yX11_cycle := ⟨gd_t 1206 ⟨rfl, rfl⟩, gd_t 1207 ⟨rfl, rfl⟩⟩
set_option maxRecDepth 100000 in
theorem mb_X11_cyclesOf : MB yX11_cyclesOf cX11_cyclesOf 4 (some .int) 1 := ⟨gd_t 13 ⟨rfl, rfl⟩, gd_t 1224 ⟨rfl, rfl⟩, by decide +kernel, by decide +kernel, by decide +kernel⟩
set_option maxRecDepth 100000 in
theorem mi_X11_cyclesOf : MI yX11_cyclesOf := ⟨gd_t 1223 ⟨rfl, rfl⟩, gd_p 28 ⟨rfl, rfl⟩⟩
set_option maxRecDepth 100000 in
theorem mb_X11_earned : MB yX11_earned cX11_earned 2 (some .int) 1 := ⟨gd_t 13 ⟨rfl, rfl⟩, gd_t 1333 ⟨rfl, rfl⟩, by decide +kernel, by decide +kernel, by decide +kernel⟩
set_option maxRecDepth 100000 in
theorem mi_X11_earned : MI yX11_earned := ⟨gd_t 1331 ⟨rfl, rfl⟩, gd_t 1332 ⟨rfl, rfl⟩⟩
set_option maxRecDepth 100000 in
theorem mb_X11_earnedBy : MB yX11_earnedBy cX11_earnedBy 6 (some .int) 1 := ⟨gd_t 13 ⟨rfl, rfl⟩, gd_t 1337 ⟨rfl, rfl⟩, by decide +kernel, by decide +kernel, by decide +kernel⟩
set_option maxRecDepth 100000 in
theorem mi_X11_earnedBy : MI yX11_earnedBy := ⟨gd_t 1336 ⟨rfl, rfl⟩, gd_p 39 ⟨rfl, rfl⟩⟩
set_option maxRecDepth 100000 in
theorem mb_X11_efficiency : MB yX11_efficiency cX11_efficiency 4 (some .int) 2 := ⟨gd_t 13 ⟨rfl, rfl⟩, gd_t 1357 ⟨rfl, rfl⟩, by decide +kernel, by decide +kernel, by decide +kernel⟩
set_option maxRecDepth 100000 in
theorem mi_X11_efficiency : MI yX11_efficiency := ⟨gd_t 1355 ⟨rfl, rfl⟩, gd_t 1356 ⟨rfl, rfl⟩⟩
set_option maxRecDepth 100000 in
theorem mb_X11_efficiencyOf : MB yX11_efficiencyOf cX11_efficiencyOf 8 (some .int) 2 := ⟨gd_t 13 ⟨rfl, rfl⟩, gd_t 1361 ⟨rfl, rfl⟩, by decide +kernel, by decide +kernel, by decide +kernel⟩
set_option maxRecDepth 100000 in
theorem mi_X11_efficiencyOf : MI yX11_efficiencyOf := ⟨gd_t 1360 ⟨rfl, rfl⟩, gd_p 41 ⟨rfl, rfl⟩⟩
set_option maxRecDepth 100000 in
theorem mb_X11_element : MB yX11_element cX11_element 2 (some .int) 1 := ⟨gd_t 13 ⟨rfl, rfl⟩, gd_t 1165 ⟨rfl, rfl⟩, by decide +kernel, by decide +kernel, by decide +kernel⟩
set_option maxRecDepth 100000 in
theorem mi_X11_element : MI yX11_element := ⟨gd_t 1163 ⟨rfl, rfl⟩, gd_t 1164 ⟨rfl, rfl⟩⟩
set_option maxRecDepth 100000 in
theorem mb_X11_feed : MB yX11_feed cX11_feed 2 (some .int) 1 := ⟨gd_t 13 ⟨rfl, rfl⟩, gd_t 1291 ⟨rfl, rfl⟩, by decide +kernel, by decide +kernel, by decide +kernel⟩
set_option maxRecDepth 100000 in
theorem mi_X11_feed : MI yX11_feed := ⟨gd_t 1289 ⟨rfl, rfl⟩, gd_t 1290 ⟨rfl, rfl⟩⟩
set_option maxRecDepth 100000 in
theorem mb_X11_film : MB yX11_film cX11_film 4 (some .int) 3 := ⟨gd_t 13 ⟨rfl, rfl⟩, gd_t 1193 ⟨rfl, rfl⟩, by decide +kernel, by decide +kernel, by decide +kernel⟩
set_option maxRecDepth 100000 in
theorem mi_X11_film : MI yX11_film := ⟨gd_t 1191 ⟨rfl, rfl⟩, gd_t 1192 ⟨rfl, rfl⟩⟩
set_option maxRecDepth 100000 in
theorem mb_X11_finding : MB yX11_finding cX11_finding 2 (some .int) 1 := ⟨gd_t 13 ⟨rfl, rfl⟩, gd_t 1172 ⟨rfl, rfl⟩, by decide +kernel, by decide +kernel, by decide +kernel⟩
set_option maxRecDepth 100000 in
theorem mi_X11_finding : MI yX11_finding := ⟨gd_t 1171 ⟨rfl, rfl⟩, gd_p 23 ⟨rfl, rfl⟩⟩
set_option maxRecDepth 100000 in
theorem mb_X11_forceOf : MB yX11_forceOf cX11_forceOf 5 (some .int) 2 := ⟨gd_t 13 ⟨rfl, rfl⟩, gd_t 1279 ⟨rfl, rfl⟩, by decide +kernel, by decide +kernel, by decide +kernel⟩
set_option maxRecDepth 100000 in
theorem mi_X11_forceOf : MI yX11_forceOf := ⟨gd_t 1278 ⟨rfl, rfl⟩, gd_p 35 ⟨rfl, rfl⟩⟩
set_option maxRecDepth 100000 in
theorem mb_X11_found : MB yX11_found cX11_found 2 (some .int) 1 := ⟨gd_t 13 ⟨rfl, rfl⟩, gd_t 1397 ⟨rfl, rfl⟩, by decide +kernel, by decide +kernel, by decide +kernel⟩
set_option maxRecDepth 100000 in
theorem mi_X11_found : MI yX11_found := ⟨gd_t 1395 ⟨rfl, rfl⟩, gd_t 1396 ⟨rfl, rfl⟩⟩
set_option maxRecDepth 100000 in
theorem mb_X11_habit : MB yX11_habit cX11_habit 2 (some .int) 1 := ⟨gd_t 13 ⟨rfl, rfl⟩, gd_t 1200 ⟨rfl, rfl⟩, by decide +kernel, by decide +kernel, by decide +kernel⟩
set_option maxRecDepth 100000 in
theorem mi_X11_habit : MI yX11_habit := ⟨gd_t 1198 ⟨rfl, rfl⟩, gd_t 1199 ⟨rfl, rfl⟩⟩
set_option maxRecDepth 100000 in
theorem mb_X11_habitOf : MB yX11_habitOf cX11_habitOf 5 (some .int) 1 := ⟨gd_t 13 ⟨rfl, rfl⟩, gd_t 1204 ⟨rfl, rfl⟩, by decide +kernel, by decide +kernel, by decide +kernel⟩
set_option maxRecDepth 100000 in
theorem mi_X11_habitOf : MI yX11_habitOf := ⟨gd_t 1203 ⟨rfl, rfl⟩, gd_p 26 ⟨rfl, rfl⟩⟩
set_option maxRecDepth 100000 in
theorem mb_X11_here : MB yX11_here cX11_here 1 (some .int) 0 := ⟨gd_t 13 ⟨rfl, rfl⟩, gd_t 1309 ⟨rfl, rfl⟩, by decide +kernel, by decide +kernel, by decide +kernel⟩
set_option maxRecDepth 100000 in
theorem mi_X11_here : MI yX11_here := ⟨gd_t 1308 ⟨rfl, rfl⟩, gd_p 38 ⟨rfl, rfl⟩⟩
set_option maxRecDepth 100000 in
theorem mb_X11_init : MB yX11_init cX11_init 2 none 0 := ⟨gd_t 13 ⟨rfl, rfl⟩, gd_t 1012 ⟨rfl, rfl⟩, by decide +kernel, by decide +kernel, by decide +kernel⟩
set_option maxRecDepth 100000 in
theorem mb_X11_isElement : MB yX11_isElement cX11_isElement 2 (some .boolean) 1 := ⟨gd_t 13 ⟨rfl, rfl⟩, gd_t 1181 ⟨rfl, rfl⟩, by decide +kernel, by decide +kernel, by decide +kernel⟩
set_option maxRecDepth 100000 in
theorem mi_X11_isElement : MI yX11_isElement := ⟨gd_t 1180 ⟨rfl, rfl⟩, gd_p 24 ⟨rfl, rfl⟩⟩
set_option maxRecDepth 100000 in
theorem mb_X11_isIn : MB yX11_isIn cX11_isIn 3 (some .boolean) 3 := ⟨gd_t 13 ⟨rfl, rfl⟩, gd_t 1168 ⟨rfl, rfl⟩, by decide +kernel, by decide +kernel, by decide +kernel⟩
set_option maxRecDepth 100000 in
theorem ms_X11_isIn : Cond.static yX11_isIn ∈ gd := gd_t 1167 ⟨rfl, rfl⟩
set_option maxRecDepth 100000 in
theorem mb_X11_isJob : MB yX11_isJob cX11_isJob 2 (some .boolean) 1 := ⟨gd_t 13 ⟨rfl, rfl⟩, gd_t 1244 ⟨rfl, rfl⟩, by decide +kernel, by decide +kernel, by decide +kernel⟩
set_option maxRecDepth 100000 in
theorem mi_X11_isJob : MI yX11_isJob := ⟨gd_t 1243 ⟨rfl, rfl⟩, gd_p 31 ⟨rfl, rfl⟩⟩
set_option maxRecDepth 100000 in
theorem mb_X11_isLooser : MB yX11_isLooser cX11_isLooser 8 (some .boolean) 2 := ⟨gd_t 13 ⟨rfl, rfl⟩, gd_t 1370 ⟨rfl, rfl⟩, by decide +kernel, by decide +kernel, by decide +kernel⟩
set_option maxRecDepth 100000 in
theorem mi_X11_isLooser : MI yX11_isLooser := ⟨gd_t 1369 ⟨rfl, rfl⟩, gd_p 42 ⟨rfl, rfl⟩⟩
set_option maxRecDepth 100000 in
theorem mb_X11_isPace : MB yX11_isPace cX11_isPace 1 (some .boolean) 1 := ⟨gd_t 13 ⟨rfl, rfl⟩, gd_t 1196 ⟨rfl, rfl⟩, by decide +kernel, by decide +kernel, by decide +kernel⟩
set_option maxRecDepth 100000 in
theorem ms_X11_isPace : Cond.static yX11_isPace ∈ gd := gd_t 1195 ⟨rfl, rfl⟩
set_option maxRecDepth 100000 in
theorem mb_X11_isWeek : MB yX11_isWeek cX11_isWeek 1 (some .boolean) 1 := ⟨gd_t 13 ⟨rfl, rfl⟩, gd_t 1275 ⟨rfl, rfl⟩, by decide +kernel, by decide +kernel, by decide +kernel⟩
set_option maxRecDepth 100000 in
theorem ms_X11_isWeek : Cond.static yX11_isWeek ∈ gd := gd_t 1274 ⟨rfl, rfl⟩
set_option maxRecDepth 100000 in
theorem mb_X11_isWorker : MB yX11_isWorker cX11_isWorker 1 (some .boolean) 1 := ⟨gd_t 13 ⟨rfl, rfl⟩, gd_t 1320 ⟨rfl, rfl⟩, by decide +kernel, by decide +kernel, by decide +kernel⟩
set_option maxRecDepth 100000 in
theorem ms_X11_isWorker : Cond.static yX11_isWorker ∈ gd := gd_t 1319 ⟨rfl, rfl⟩
set_option maxRecDepth 100000 in
theorem mb_X11_job : MB yX11_job cX11_job 1 (some .int) 0 := ⟨gd_t 13 ⟨rfl, rfl⟩, gd_t 1236 ⟨rfl, rfl⟩, by decide +kernel, by decide +kernel, by decide +kernel⟩
set_option maxRecDepth 100000 in
theorem mi_X11_job : MI yX11_job := ⟨gd_t 1234 ⟨rfl, rfl⟩, gd_t 1235 ⟨rfl, rfl⟩⟩
set_option maxRecDepth 100000 in
theorem mb_X11_keptOf : MB yX11_keptOf cX11_keptOf 11 (some .int) 2 := ⟨gd_t 13 ⟨rfl, rfl⟩, gd_t 1232 ⟨rfl, rfl⟩, by decide +kernel, by decide +kernel, by decide +kernel⟩
set_option maxRecDepth 100000 in
theorem mi_X11_keptOf : MI yX11_keptOf := ⟨gd_t 1231 ⟨rfl, rfl⟩, gd_p 30 ⟨rfl, rfl⟩⟩
set_option maxRecDepth 100000 in
theorem mb_X11_latestOf : MB yX11_latestOf cX11_latestOf 4 (some .int) 1 := ⟨gd_t 13 ⟨rfl, rfl⟩, gd_t 1248 ⟨rfl, rfl⟩, by decide +kernel, by decide +kernel, by decide +kernel⟩
set_option maxRecDepth 100000 in
theorem mi_X11_latestOf : MI yX11_latestOf := ⟨gd_t 1247 ⟨rfl, rfl⟩, gd_p 32 ⟨rfl, rfl⟩⟩
set_option maxRecDepth 100000 in
theorem mb_X11_learner : MB yX11_learner cX11_learner 5 (some .int) 3 := ⟨gd_t 13 ⟨rfl, rfl⟩, gd_t 1329 ⟨rfl, rfl⟩, by decide +kernel, by decide +kernel, by decide +kernel⟩
set_option maxRecDepth 100000 in
theorem mi_X11_learner : MI yX11_learner := ⟨gd_t 1327 ⟨rfl, rfl⟩, gd_t 1328 ⟨rfl, rfl⟩⟩
set_option maxRecDepth 100000 in
theorem mb_X11_looser : MB yX11_looser cX11_looser 3 (some .int) 2 := ⟨gd_t 13 ⟨rfl, rfl⟩, gd_t 1366 ⟨rfl, rfl⟩, by decide +kernel, by decide +kernel, by decide +kernel⟩
set_option maxRecDepth 100000 in
theorem mi_X11_looser : MI yX11_looser := ⟨gd_t 1364 ⟨rfl, rfl⟩, gd_t 1365 ⟨rfl, rfl⟩⟩
set_option maxRecDepth 100000 in
theorem mb_X11_make : MB yX11_make cX11_make 6 (some .int) 3 := ⟨gd_t 13 ⟨rfl, rfl⟩, gd_t 1256 ⟨rfl, rfl⟩, by decide +kernel, by decide +kernel, by decide +kernel⟩
set_option maxRecDepth 100000 in
theorem mi_X11_make : MI yX11_make := ⟨gd_t 1255 ⟨rfl, rfl⟩, gd_p 33 ⟨rfl, rfl⟩⟩
set_option maxRecDepth 100000 in
theorem mb_X11_move : MB yX11_move cX11_move 6 (some .int) 1 := ⟨gd_t 13 ⟨rfl, rfl⟩, gd_t 1268 ⟨rfl, rfl⟩, by decide +kernel, by decide +kernel, by decide +kernel⟩
set_option maxRecDepth 100000 in
theorem mi_X11_move : MI yX11_move := ⟨gd_t 1266 ⟨rfl, rfl⟩, gd_t 1267 ⟨rfl, rfl⟩⟩
set_option maxRecDepth 100000 in
theorem mb_X11_normal : MB yX11_normal cX11_normal 2 (some .int) 1 := ⟨gd_t 13 ⟨rfl, rfl⟩, gd_t 1212 ⟨rfl, rfl⟩, by decide +kernel, by decide +kernel, by decide +kernel⟩
set_option maxRecDepth 100000 in
theorem mi_X11_normal : MI yX11_normal := ⟨gd_t 1210 ⟨rfl, rfl⟩, gd_t 1211 ⟨rfl, rfl⟩⟩
set_option maxRecDepth 100000 in
theorem mb_X11_normalOf : MB yX11_normalOf cX11_normalOf 3 (some .int) 1 := ⟨gd_t 13 ⟨rfl, rfl⟩, gd_t 1216 ⟨rfl, rfl⟩, by decide +kernel, by decide +kernel, by decide +kernel⟩
set_option maxRecDepth 100000 in
theorem mi_X11_normalOf : MI yX11_normalOf := ⟨gd_t 1215 ⟨rfl, rfl⟩, gd_p 27 ⟨rfl, rfl⟩⟩
set_option maxRecDepth 100000 in
theorem mb_X11_of : MB yX11_of cX11_of 3 (some .int) 2 := ⟨gd_t 13 ⟨rfl, rfl⟩, gd_t 1220 ⟨rfl, rfl⟩, by decide +kernel, by decide +kernel, by decide +kernel⟩
set_option maxRecDepth 100000 in
theorem mi_X11_of : MI yX11_of := ⟨gd_t 1218 ⟨rfl, rfl⟩, gd_t 1219 ⟨rfl, rfl⟩⟩
set_option maxRecDepth 100000 in
theorem mb_X11_ones : MB yX11_ones cX11_ones 3 (some .int) 1 := ⟨gd_t 13 ⟨rfl, rfl⟩, gd_t 1373 ⟨rfl, rfl⟩, by decide +kernel, by decide +kernel, by decide +kernel⟩
set_option maxRecDepth 100000 in
theorem ms_X11_ones : Cond.static yX11_ones ∈ gd := gd_t 1372 ⟨rfl, rfl⟩
set_option maxRecDepth 100000 in
theorem mb_X11_order : MB yX11_order cX11_order 5 (some .int) 1 := ⟨gd_t 13 ⟨rfl, rfl⟩, gd_t 1377 ⟨rfl, rfl⟩, by decide +kernel, by decide +kernel, by decide +kernel⟩
set_option maxRecDepth 100000 in
theorem mi_X11_order : MI yX11_order := ⟨gd_t 1375 ⟨rfl, rfl⟩, gd_t 1376 ⟨rfl, rfl⟩⟩
set_option maxRecDepth 100000 in
theorem mb_X11_part : MB yX11_part cX11_part 6 (some .int) 3 := ⟨gd_t 13 ⟨rfl, rfl⟩, gd_t 1240 ⟨rfl, rfl⟩, by decide +kernel, by decide +kernel, by decide +kernel⟩
set_option maxRecDepth 100000 in
theorem mi_X11_part : MI yX11_part := ⟨gd_t 1238 ⟨rfl, rfl⟩, gd_t 1239 ⟨rfl, rfl⟩⟩
set_option maxRecDepth 100000 in
theorem mb_X11_pay : MB yX11_pay cX11_pay 4 (some .int) 3 := ⟨gd_t 13 ⟨rfl, rfl⟩, gd_t 1341 ⟨rfl, rfl⟩, by decide +kernel, by decide +kernel, by decide +kernel⟩
set_option maxRecDepth 100000 in
theorem mi_X11_pay : MI yX11_pay := ⟨gd_t 1339 ⟨rfl, rfl⟩, gd_t 1340 ⟨rfl, rfl⟩⟩
set_option maxRecDepth 100000 in
theorem mb_X11_payOf : MB yX11_payOf cX11_payOf 9 (some .int) 3 := ⟨gd_t 13 ⟨rfl, rfl⟩, gd_t 1345 ⟨rfl, rfl⟩, by decide +kernel, by decide +kernel, by decide +kernel⟩
set_option maxRecDepth 100000 in
theorem mi_X11_payOf : MI yX11_payOf := ⟨gd_t 1344 ⟨rfl, rfl⟩, gd_p 40 ⟨rfl, rfl⟩⟩
set_option maxRecDepth 100000 in
theorem mb_X11_pool : MB yX11_pool cX11_pool 16 (some .int) 3 := ⟨gd_t 13 ⟨rfl, rfl⟩, gd_t 1353 ⟨rfl, rfl⟩, by decide +kernel, by decide +kernel, by decide +kernel⟩
set_option maxRecDepth 100000 in
theorem mi_X11_pool : MI yX11_pool := ⟨gd_t 1351 ⟨rfl, rfl⟩, gd_t 1352 ⟨rfl, rfl⟩⟩
set_option maxRecDepth 100000 in
theorem mb_X11_rate : MB yX11_rate cX11_rate 4 (some .int) 2 := ⟨gd_t 13 ⟨rfl, rfl⟩, gd_t 1272 ⟨rfl, rfl⟩, by decide +kernel, by decide +kernel, by decide +kernel⟩
set_option maxRecDepth 100000 in
theorem mi_X11_rate : MI yX11_rate := ⟨gd_t 1270 ⟨rfl, rfl⟩, gd_t 1271 ⟨rfl, rfl⟩⟩
set_option maxRecDepth 100000 in
theorem mb_X11_read : MB yX11_read cX11_read 4 (some .int) 0 := ⟨gd_t 13 ⟨rfl, rfl⟩, gd_t 1295 ⟨rfl, rfl⟩, by decide +kernel, by decide +kernel, by decide +kernel⟩
set_option maxRecDepth 100000 in
theorem mi_X11_read : MI yX11_read := ⟨gd_t 1293 ⟨rfl, rfl⟩, gd_t 1294 ⟨rfl, rfl⟩⟩
set_option maxRecDepth 100000 in
theorem mb_X11_readAll : MB yX11_readAll cX11_readAll 4 (some .int) 0 := ⟨gd_t 13 ⟨rfl, rfl⟩, gd_t 1299 ⟨rfl, rfl⟩, by decide +kernel, by decide +kernel, by decide +kernel⟩
set_option maxRecDepth 100000 in
theorem mi_X11_readAll : MI yX11_readAll := ⟨gd_t 1298 ⟨rfl, rfl⟩, gd_p 36 ⟨rfl, rfl⟩⟩
set_option maxRecDepth 100000 in
theorem mb_X11_rule : MB yX11_rule cX11_rule 2 (some .int) 1 := ⟨gd_t 13 ⟨rfl, rfl⟩, gd_t 1313 ⟨rfl, rfl⟩, by decide +kernel, by decide +kernel, by decide +kernel⟩
set_option maxRecDepth 100000 in
theorem mi_X11_rule : MI yX11_rule := ⟨gd_t 1311 ⟨rfl, rfl⟩, gd_t 1312 ⟨rfl, rfl⟩⟩
set_option maxRecDepth 100000 in
theorem mb_X11_set : MB yX11_set cX11_set 3 (some .int) 1 := ⟨gd_t 13 ⟨rfl, rfl⟩, gd_t 1252 ⟨rfl, rfl⟩, by decide +kernel, by decide +kernel, by decide +kernel⟩
set_option maxRecDepth 100000 in
theorem mi_X11_set : MI yX11_set := ⟨gd_t 1250 ⟨rfl, rfl⟩, gd_t 1251 ⟨rfl, rfl⟩⟩
set_option maxRecDepth 100000 in
theorem mb_X11_slow : MB yX11_slow cX11_slow 12 (some .int) 2 := ⟨gd_t 13 ⟨rfl, rfl⟩, gd_t 1381 ⟨rfl, rfl⟩, by decide +kernel, by decide +kernel, by decide +kernel⟩
set_option maxRecDepth 100000 in
theorem mi_X11_slow : MI yX11_slow := ⟨gd_t 1379 ⟨rfl, rfl⟩, gd_t 1380 ⟨rfl, rfl⟩⟩
set_option maxRecDepth 100000 in
theorem mb_X11_standardOf : MB yX11_standardOf cX11_standardOf 3 (some .int) 1 := ⟨gd_t 13 ⟨rfl, rfl⟩, gd_t 1228 ⟨rfl, rfl⟩, by decide +kernel, by decide +kernel, by decide +kernel⟩
set_option maxRecDepth 100000 in
theorem mi_X11_standardOf : MI yX11_standardOf := ⟨gd_t 1227 ⟨rfl, rfl⟩, gd_p 29 ⟨rfl, rfl⟩⟩
set_option maxRecDepth 100000 in
theorem mb_X11_sumOf : MB yX11_sumOf cX11_sumOf 4 (some .int) 1 := ⟨gd_t 13 ⟨rfl, rfl⟩, gd_t 1260 ⟨rfl, rfl⟩, by decide +kernel, by decide +kernel, by decide +kernel⟩
set_option maxRecDepth 100000 in
theorem mi_X11_sumOf : MI yX11_sumOf := ⟨gd_t 1259 ⟨rfl, rfl⟩, gd_p 34 ⟨rfl, rfl⟩⟩
set_option maxRecDepth 100000 in
theorem mb_X11_tell : MB yX11_tell cX11_tell 2 (some .int) 1 := ⟨gd_t 13 ⟨rfl, rfl⟩, gd_t 1385 ⟨rfl, rfl⟩, by decide +kernel, by decide +kernel, by decide +kernel⟩
set_option maxRecDepth 100000 in
theorem mi_X11_tell : MI yX11_tell := ⟨gd_t 1383 ⟨rfl, rfl⟩, gd_t 1384 ⟨rfl, rfl⟩⟩
set_option maxRecDepth 100000 in
theorem mb_X11_wait : MB yX11_wait cX11_wait 5 (some .int) 4 := ⟨gd_t 13 ⟨rfl, rfl⟩, gd_t 1325 ⟨rfl, rfl⟩, by decide +kernel, by decide +kernel, by decide +kernel⟩
set_option maxRecDepth 100000 in
theorem mi_X11_wait : MI yX11_wait := ⟨gd_t 1323 ⟨rfl, rfl⟩, gd_t 1324 ⟨rfl, rfl⟩⟩
set_option maxRecDepth 100000 in
theorem mb_X11_week : MB yX11_week cX11_week 3 (some .int) 1 := ⟨gd_t 13 ⟨rfl, rfl⟩, gd_t 1287 ⟨rfl, rfl⟩, by decide +kernel, by decide +kernel, by decide +kernel⟩
set_option maxRecDepth 100000 in
theorem mi_X11_week : MI yX11_week := ⟨gd_t 1285 ⟨rfl, rfl⟩, gd_t 1286 ⟨rfl, rfl⟩⟩
set_option maxRecDepth 100000 in
theorem mb_X11_wordHere : MB yX11_wordHere cX11_wordHere 6 (some .int) 0 := ⟨gd_t 13 ⟨rfl, rfl⟩, gd_t 1303 ⟨rfl, rfl⟩, by decide +kernel, by decide +kernel, by decide +kernel⟩
set_option maxRecDepth 100000 in
theorem mi_X11_wordHere : MI yX11_wordHere := ⟨gd_t 1302 ⟨rfl, rfl⟩, gd_p 37 ⟨rfl, rfl⟩⟩
set_option maxRecDepth 100000 in
theorem mb_X11_work : MB yX11_work cX11_work 6 (some .int) 4 := ⟨gd_t 13 ⟨rfl, rfl⟩, gd_t 1317 ⟨rfl, rfl⟩, by decide +kernel, by decide +kernel, by decide +kernel⟩
set_option maxRecDepth 100000 in
theorem mi_X11_work : MI yX11_work := ⟨gd_t 1315 ⟨rfl, rfl⟩, gd_t 1316 ⟨rfl, rfl⟩⟩
set_option maxRecDepth 100000 in
theorem mb_X11_worth : MB yX11_worth cX11_worth 5 (some .int) 3 := ⟨gd_t 13 ⟨rfl, rfl⟩, gd_t 1283 ⟨rfl, rfl⟩, by decide +kernel, by decide +kernel, by decide +kernel⟩
set_option maxRecDepth 100000 in
theorem mi_X11_worth : MI yX11_worth := ⟨gd_t 1281 ⟨rfl, rfl⟩, gd_t 1282 ⟨rfl, rfl⟩⟩
set_option maxRecDepth 100000 in
theorem mb_X1_add : MB yX1_add cX1_add 2 (some .int) 1 := ⟨gd_t 2 ⟨rfl, rfl⟩, gd_t 368 ⟨rfl, rfl⟩, by decide +kernel, by decide +kernel, by decide +kernel⟩
set_option maxRecDepth 100000 in
theorem mi_X1_add : MI yX1_add := ⟨gd_t 366 ⟨rfl, rfl⟩, gd_t 367 ⟨rfl, rfl⟩⟩
set_option maxRecDepth 100000 in
theorem mb_X1_allowanceOf : MB yX1_allowanceOf cX1_allowanceOf 2 (some .int) 1 := ⟨gd_t 2 ⟨rfl, rfl⟩, gd_t 386 ⟨rfl, rfl⟩, by decide +kernel, by decide +kernel, by decide +kernel⟩
set_option maxRecDepth 100000 in
theorem mi_X1_allowanceOf : MI yX1_allowanceOf := ⟨gd_t 384 ⟨rfl, rfl⟩, gd_t 385 ⟨rfl, rfl⟩⟩
set_option maxRecDepth 100000 in
theorem mb_X1_has : MB yX1_has cX1_has 2 (some .boolean) 1 := ⟨gd_t 2 ⟨rfl, rfl⟩, gd_t 376 ⟨rfl, rfl⟩, by decide +kernel, by decide +kernel, by decide +kernel⟩
set_option maxRecDepth 100000 in
theorem mi_X1_has : MI yX1_has := ⟨gd_t 374 ⟨rfl, rfl⟩, gd_t 375 ⟨rfl, rfl⟩⟩
set_option maxRecDepth 100000 in
theorem mb_X1_init : MB yX1_init cX1_init 1 none 0 := ⟨gd_t 2 ⟨rfl, rfl⟩, gd_t 31 ⟨rfl, rfl⟩, by decide +kernel, by decide +kernel, by decide +kernel⟩
set_option maxRecDepth 100000 in
theorem mb_X1_isFull : MB yX1_isFull cX1_isFull 1 (some .boolean) 0 := ⟨gd_t 2 ⟨rfl, rfl⟩, gd_t 364 ⟨rfl, rfl⟩, by decide +kernel, by decide +kernel, by decide +kernel⟩
set_option maxRecDepth 100000 in
theorem mi_X1_isFull : MI yX1_isFull := ⟨gd_t 362 ⟨rfl, rfl⟩, gd_t 363 ⟨rfl, rfl⟩⟩
set_option maxRecDepth 100000 in
theorem mb_X1_isKind : MB yX1_isKind cX1_isKind 1 (some .boolean) 1 := ⟨gd_t 2 ⟨rfl, rfl⟩, gd_t 352 ⟨rfl, rfl⟩, by decide +kernel, by decide +kernel, by decide +kernel⟩
set_option maxRecDepth 100000 in
theorem ms_X1_isKind : Cond.static yX1_isKind ∈ gd := gd_t 351 ⟨rfl, rfl⟩
set_option maxRecDepth 100000 in
theorem mb_X1_isUnder : MB yX1_isUnder cX1_isUnder 5 (some .boolean) 2 := ⟨gd_t 2 ⟨rfl, rfl⟩, gd_t 380 ⟨rfl, rfl⟩, by decide +kernel, by decide +kernel, by decide +kernel⟩
set_option maxRecDepth 100000 in
theorem mi_X1_isUnder : MI yX1_isUnder := ⟨gd_t 378 ⟨rfl, rfl⟩, gd_t 379 ⟨rfl, rfl⟩⟩
set_option maxRecDepth 100000 in
theorem mb_X1_kindOf : MB yX1_kindOf cX1_kindOf 2 (some .int) 1 := ⟨gd_t 2 ⟨rfl, rfl⟩, gd_t 457 ⟨rfl, rfl⟩, by decide +kernel, by decide +kernel, by decide +kernel⟩
set_option maxRecDepth 100000 in
theorem mi_X1_kindOf : MI yX1_kindOf := ⟨gd_t 455 ⟨rfl, rfl⟩, gd_t 456 ⟨rfl, rfl⟩⟩
set_option maxRecDepth 100000 in
theorem mb_X1_many : MB yX1_many cX1_many 1 (some .int) 0 := ⟨gd_t 2 ⟨rfl, rfl⟩, gd_t 987 ⟨rfl, rfl⟩, by decide +kernel, by decide +kernel, by decide +kernel⟩
set_option maxRecDepth 100000 in
theorem mi_X1_many : MI yX1_many := ⟨gd_t 985 ⟨rfl, rfl⟩, gd_t 986 ⟨rfl, rfl⟩⟩
set_option maxRecDepth 100000 in
theorem mb_X1_setAllowances : MB yX1_setAllowances cX1_setAllowances 3 none 2 := ⟨gd_t 2 ⟨rfl, rfl⟩, gd_t 395 ⟨rfl, rfl⟩, by decide +kernel, by decide +kernel, by decide +kernel⟩
set_option maxRecDepth 100000 in
theorem mi_X1_setAllowances : MI yX1_setAllowances := ⟨gd_t 393 ⟨rfl, rfl⟩, gd_t 394 ⟨rfl, rfl⟩⟩
set_option maxRecDepth 100000 in
theorem mb_X2_add : MB yX2_add cX2_add 1 (some .int) 0 := ⟨gd_t 4 ⟨rfl, rfl⟩, gd_t 494 ⟨rfl, rfl⟩, by decide +kernel, by decide +kernel, by decide +kernel⟩
set_option maxRecDepth 100000 in
theorem mi_X2_add : MI yX2_add := ⟨gd_t 492 ⟨rfl, rfl⟩, gd_t 493 ⟨rfl, rfl⟩⟩
set_option maxRecDepth 100000 in
theorem mb_X2_addPart : MB yX2_addPart cX2_addPart 5 (some .int) 3 := ⟨gd_t 4 ⟨rfl, rfl⟩, gd_t 519 ⟨rfl, rfl⟩, by decide +kernel, by decide +kernel, by decide +kernel⟩
set_option maxRecDepth 100000 in
theorem mi_X2_addPart : MI yX2_addPart := ⟨gd_t 517 ⟨rfl, rfl⟩, gd_t 518 ⟨rfl, rfl⟩⟩
set_option maxRecDepth 100000 in
theorem mb_X2_clearMarks : MB yX2_clearMarks cX2_clearMarks 3 none 1 := ⟨gd_t 4 ⟨rfl, rfl⟩, gd_t 571 ⟨rfl, rfl⟩, by decide +kernel, by decide +kernel, by decide +kernel⟩
set_option maxRecDepth 100000 in
theorem mi_X2_clearMarks : MI yX2_clearMarks := ⟨gd_t 569 ⟨rfl, rfl⟩, gd_t 570 ⟨rfl, rfl⟩⟩
set_option maxRecDepth 100000 in
theorem mb_X2_elementAt : MB yX2_elementAt cX2_elementAt 3 (some .int) 2 := ⟨gd_t 4 ⟨rfl, rfl⟩, gd_t 544 ⟨rfl, rfl⟩, by decide +kernel, by decide +kernel, by decide +kernel⟩
set_option maxRecDepth 100000 in
theorem mi_X2_elementAt : MI yX2_elementAt := ⟨gd_t 542 ⟨rfl, rfl⟩, gd_t 543 ⟨rfl, rfl⟩⟩
set_option maxRecDepth 100000 in
theorem mb_X2_has : MB yX2_has cX2_has 2 (some .boolean) 1 := ⟨gd_t 4 ⟨rfl, rfl⟩, gd_t 502 ⟨rfl, rfl⟩, by decide +kernel, by decide +kernel, by decide +kernel⟩
set_option maxRecDepth 100000 in
theorem mi_X2_has : MI yX2_has := ⟨gd_t 500 ⟨rfl, rfl⟩, gd_t 501 ⟨rfl, rfl⟩⟩
set_option maxRecDepth 100000 in
theorem mb_X2_init : MB yX2_init cX2_init 1 none 0 := ⟨gd_t 4 ⟨rfl, rfl⟩, gd_t 106 ⟨rfl, rfl⟩, by decide +kernel, by decide +kernel, by decide +kernel⟩
set_option maxRecDepth 100000 in
theorem mb_X2_isFull : MB yX2_isFull cX2_isFull 1 (some .boolean) 0 := ⟨gd_t 4 ⟨rfl, rfl⟩, gd_t 490 ⟨rfl, rfl⟩, by decide +kernel, by decide +kernel, by decide +kernel⟩
set_option maxRecDepth 100000 in
theorem mi_X2_isFull : MI yX2_isFull := ⟨gd_t 488 ⟨rfl, rfl⟩, gd_t 489 ⟨rfl, rfl⟩⟩
set_option maxRecDepth 100000 in
theorem mb_X2_isFullOfParts : MB yX2_isFullOfParts cX2_isFullOfParts 2 (some .boolean) 1 := ⟨gd_t 4 ⟨rfl, rfl⟩, gd_t 515 ⟨rfl, rfl⟩, by decide +kernel, by decide +kernel, by decide +kernel⟩
set_option maxRecDepth 100000 in
theorem mi_X2_isFullOfParts : MI yX2_isFullOfParts := ⟨gd_t 513 ⟨rfl, rfl⟩, gd_t 514 ⟨rfl, rfl⟩⟩
set_option maxRecDepth 100000 in
theorem mb_X2_isMarked : MB yX2_isMarked cX2_isMarked 3 (some .boolean) 2 := ⟨gd_t 4 ⟨rfl, rfl⟩, gd_t 540 ⟨rfl, rfl⟩, by decide +kernel, by decide +kernel, by decide +kernel⟩
set_option maxRecDepth 100000 in
theorem mi_X2_isMarked : MI yX2_isMarked := ⟨gd_t 538 ⟨rfl, rfl⟩, gd_t 539 ⟨rfl, rfl⟩⟩
set_option maxRecDepth 100000 in
theorem mb_X2_many : MB yX2_many cX2_many 1 (some .int) 0 := ⟨gd_t 4 ⟨rfl, rfl⟩, gd_t 579 ⟨rfl, rfl⟩, by decide +kernel, by decide +kernel, by decide +kernel⟩
set_option maxRecDepth 100000 in
theorem mi_X2_many : MI yX2_many := ⟨gd_t 577 ⟨rfl, rfl⟩, gd_t 578 ⟨rfl, rfl⟩⟩
set_option maxRecDepth 100000 in
theorem mb_X2_mark : MB yX2_mark cX2_mark 3 none 2 := ⟨gd_t 4 ⟨rfl, rfl⟩, gd_t 583 ⟨rfl, rfl⟩, by decide +kernel, by decide +kernel, by decide +kernel⟩
set_option maxRecDepth 100000 in
theorem mi_X2_mark : MI yX2_mark := ⟨gd_t 581 ⟨rfl, rfl⟩, gd_t 582 ⟨rfl, rfl⟩⟩
set_option maxRecDepth 100000 in
theorem mb_X2_oftenAt : MB yX2_oftenAt cX2_oftenAt 3 (some .int) 2 := ⟨gd_t 4 ⟨rfl, rfl⟩, gd_t 567 ⟨rfl, rfl⟩, by decide +kernel, by decide +kernel, by decide +kernel⟩
set_option maxRecDepth 100000 in
theorem mi_X2_oftenAt : MI yX2_oftenAt := ⟨gd_t 565 ⟨rfl, rfl⟩, gd_t 566 ⟨rfl, rfl⟩⟩
set_option maxRecDepth 100000 in
theorem mb_X2_partMany : MB yX2_partMany cX2_partMany 2 (some .int) 1 := ⟨gd_t 4 ⟨rfl, rfl⟩, gd_t 527 ⟨rfl, rfl⟩, by decide +kernel, by decide +kernel, by decide +kernel⟩
set_option maxRecDepth 100000 in
theorem mi_X2_partMany : MI yX2_partMany := ⟨gd_t 525 ⟨rfl, rfl⟩, gd_t 526 ⟨rfl, rfl⟩⟩
set_option maxRecDepth 100000 in
theorem mb_X2_placeOf : MB yX2_placeOf cX2_placeOf 4 (some .int) 2 := ⟨gd_t 4 ⟨rfl, rfl⟩, gd_t 507 ⟨rfl, rfl⟩, by decide +kernel, by decide +kernel, by decide +kernel⟩
set_option maxRecDepth 100000 in
theorem mi_X2_placeOf : MI yX2_placeOf := ⟨gd_t 505 ⟨rfl, rfl⟩, gd_t 506 ⟨rfl, rfl⟩⟩
set_option maxRecDepth 100000 in
theorem mb_X3_allOf : MB yX3_allOf cX3_allOf 5 (some .int) 2 := ⟨gd_t 10 ⟨rfl, rfl⟩, gd_t 835 ⟨rfl, rfl⟩, by decide +kernel, by decide +kernel, by decide +kernel⟩
set_option maxRecDepth 100000 in
theorem mi_X3_allOf : MI yX3_allOf := ⟨gd_t 833 ⟨rfl, rfl⟩, gd_t 834 ⟨rfl, rfl⟩⟩
set_option maxRecDepth 100000 in
theorem mb_X3_forWaiting : MB yX3_forWaiting cX3_forWaiting 3 (some .int) 2 := ⟨gd_t 10 ⟨rfl, rfl⟩, gd_t 822 ⟨rfl, rfl⟩, by decide +kernel, by decide +kernel, by decide +kernel⟩
set_option maxRecDepth 100000 in
theorem mi_X3_forWaiting : MI yX3_forWaiting := ⟨gd_t 821 ⟨rfl, rfl⟩, gd_p 14 ⟨rfl, rfl⟩⟩
set_option maxRecDepth 100000 in
theorem mb_X3_init : MB yX3_init cX3_init 4 none 3 := ⟨gd_t 10 ⟨rfl, rfl⟩, gd_t 244 ⟨rfl, rfl⟩, by decide +kernel, by decide +kernel, by decide +kernel⟩
set_option maxRecDepth 100000 in
theorem mb_X3_shareOf : MB yX3_shareOf cX3_shareOf 13 (some .int) 3 := ⟨gd_t 10 ⟨rfl, rfl⟩, gd_t 855 ⟨rfl, rfl⟩, by decide +kernel, by decide +kernel, by decide +kernel⟩
set_option maxRecDepth 100000 in
theorem mi_X3_shareOf : MI yX3_shareOf := ⟨gd_t 853 ⟨rfl, rfl⟩, gd_t 854 ⟨rfl, rfl⟩⟩
set_option maxRecDepth 100000 in
theorem mb_X3_tellOf : MB yX3_tellOf cX3_tellOf 4 (some .int) 3 := ⟨gd_t 10 ⟨rfl, rfl⟩, gd_t 813 ⟨rfl, rfl⟩, by decide +kernel, by decide +kernel, by decide +kernel⟩
set_option maxRecDepth 100000 in
theorem mi_X3_tellOf : MI yX3_tellOf := ⟨gd_t 811 ⟨rfl, rfl⟩, gd_t 812 ⟨rfl, rfl⟩⟩
set_option maxRecDepth 100000 in
theorem mb_X4_beginOf : MB yX4_beginOf cX4_beginOf 2 (some .int) 1 := ⟨gd_t 5 ⟨rfl, rfl⟩, gd_t 599 ⟨rfl, rfl⟩, by decide +kernel, by decide +kernel, by decide +kernel⟩
set_option maxRecDepth 100000 in
theorem mi_X4_beginOf : MI yX4_beginOf := ⟨gd_t 597 ⟨rfl, rfl⟩, gd_t 598 ⟨rfl, rfl⟩⟩
set_option maxRecDepth 100000 in
theorem mb_X4_canMake : MB yX4_canMake cX4_canMake 3 (some .boolean) 1 := ⟨gd_t 5 ⟨rfl, rfl⟩, gd_t 535 ⟨rfl, rfl⟩, by decide +kernel, by decide +kernel, by decide +kernel⟩
set_option maxRecDepth 100000 in
theorem mi_X4_canMake : MI yX4_canMake := ⟨gd_t 533 ⟨rfl, rfl⟩, gd_t 534 ⟨rfl, rfl⟩⟩
set_option maxRecDepth 100000 in
theorem mb_X4_inForce : MB yX4_inForce cX4_inForce 4 (some .int) 2 := ⟨gd_t 5 ⟨rfl, rfl⟩, gd_t 611 ⟨rfl, rfl⟩, by decide +kernel, by decide +kernel, by decide +kernel⟩
set_option maxRecDepth 100000 in
theorem mi_X4_inForce : MI yX4_inForce := ⟨gd_t 609 ⟨rfl, rfl⟩, gd_t 610 ⟨rfl, rfl⟩⟩
set_option maxRecDepth 100000 in
theorem mb_X4_init : MB yX4_init cX4_init 3 none 2 := ⟨gd_t 5 ⟨rfl, rfl⟩, gd_t 129 ⟨rfl, rfl⟩, by decide +kernel, by decide +kernel, by decide +kernel⟩
set_option maxRecDepth 100000 in
theorem mb_X4_isFull : MB yX4_isFull cX4_isFull 1 (some .boolean) 0 := ⟨gd_t 5 ⟨rfl, rfl⟩, gd_t 552 ⟨rfl, rfl⟩, by decide +kernel, by decide +kernel, by decide +kernel⟩
set_option maxRecDepth 100000 in
theorem mi_X4_isFull : MI yX4_isFull := ⟨gd_t 550 ⟨rfl, rfl⟩, gd_t 551 ⟨rfl, rfl⟩⟩
set_option maxRecDepth 100000 in
theorem mb_X4_latestOf : MB yX4_latestOf cX4_latestOf 3 (some .int) 1 := ⟨gd_t 5 ⟨rfl, rfl⟩, gd_t 511 ⟨rfl, rfl⟩, by decide +kernel, by decide +kernel, by decide +kernel⟩
set_option maxRecDepth 100000 in
theorem mi_X4_latestOf : MI yX4_latestOf := ⟨gd_t 509 ⟨rfl, rfl⟩, gd_t 510 ⟨rfl, rfl⟩⟩
set_option maxRecDepth 100000 in
theorem mb_X4_make : MB yX4_make cX4_make 7 (some .int) 2 := ⟨gd_t 5 ⟨rfl, rfl⟩, gd_t 556 ⟨rfl, rfl⟩, by decide +kernel, by decide +kernel, by decide +kernel⟩
set_option maxRecDepth 100000 in
theorem mi_X4_make : MI yX4_make := ⟨gd_t 554 ⟨rfl, rfl⟩, gd_t 555 ⟨rfl, rfl⟩⟩
set_option maxRecDepth 100000 in
theorem mb_X4_many : MB yX4_many cX4_many 1 (some .int) 0 := ⟨gd_t 5 ⟨rfl, rfl⟩, gd_t 995 ⟨rfl, rfl⟩, by decide +kernel, by decide +kernel, by decide +kernel⟩
set_option maxRecDepth 100000 in
theorem mi_X4_many : MI yX4_many := ⟨gd_t 993 ⟨rfl, rfl⟩, gd_t 994 ⟨rfl, rfl⟩⟩
set_option maxRecDepth 100000 in
theorem mb_X4_mayMove : MB yX4_mayMove cX4_mayMove 7 (some .boolean) 2 := ⟨gd_t 5 ⟨rfl, rfl⟩, gd_t 595 ⟨rfl, rfl⟩, by decide +kernel, by decide +kernel, by decide +kernel⟩
set_option maxRecDepth 100000 in
theorem mi_X4_mayMove : MI yX4_mayMove := ⟨gd_t 593 ⟨rfl, rfl⟩, gd_t 594 ⟨rfl, rfl⟩⟩
set_option maxRecDepth 100000 in
theorem mb_X4_sumOf : MB yX4_sumOf cX4_sumOf 2 (some .int) 1 := ⟨gd_t 5 ⟨rfl, rfl⟩, gd_t 615 ⟨rfl, rfl⟩, by decide +kernel, by decide +kernel, by decide +kernel⟩
set_option maxRecDepth 100000 in
theorem mi_X4_sumOf : MI yX4_sumOf := ⟨gd_t 613 ⟨rfl, rfl⟩, gd_t 614 ⟨rfl, rfl⟩⟩
set_option maxRecDepth 100000 in
theorem mb_X4_worthOf : MB yX4_worthOf cX4_worthOf 3 (some .int) 2 := ⟨gd_t 5 ⟨rfl, rfl⟩, gd_t 563 ⟨rfl, rfl⟩, by decide +kernel, by decide +kernel, by decide +kernel⟩
set_option maxRecDepth 100000 in
theorem mi_X4_worthOf : MI yX4_worthOf := ⟨gd_t 561 ⟨rfl, rfl⟩, gd_t 562 ⟨rfl, rfl⟩⟩
set_option maxRecDepth 100000 in
theorem mb_X5_addByte : MB yX5_addByte cX5_addByte 2 (some .int) 1 := ⟨gd_t 6 ⟨rfl, rfl⟩, gd_t 636 ⟨rfl, rfl⟩, by decide +kernel, by decide +kernel, by decide +kernel⟩
set_option maxRecDepth 100000 in
theorem mi_X5_addByte : MI yX5_addByte := ⟨gd_t 634 ⟨rfl, rfl⟩, gd_t 635 ⟨rfl, rfl⟩⟩
set_option maxRecDepth 100000 in
theorem mb_X5_alikeWith : MB yX5_alikeWith cX5_alikeWith 3 (some .int) 1 := ⟨gd_t 6 ⟨rfl, rfl⟩, gd_t 669 ⟨rfl, rfl⟩, by decide +kernel, by decide +kernel, by decide +kernel⟩
set_option maxRecDepth 100000 in
theorem mi_X5_alikeWith : MI yX5_alikeWith := ⟨gd_t 668 ⟨rfl, rfl⟩, gd_p 8 ⟨rfl, rfl⟩⟩
set_option maxRecDepth 100000 in
theorem mb_X5_byteMany : MB yX5_byteMany cX5_byteMany 1 (some .int) 0 := ⟨gd_t 6 ⟨rfl, rfl⟩, gd_t 1003 ⟨rfl, rfl⟩, by decide +kernel, by decide +kernel, by decide +kernel⟩
set_option maxRecDepth 100000 in
theorem mi_X5_byteMany : MI yX5_byteMany := ⟨gd_t 1001 ⟨rfl, rfl⟩, gd_t 1002 ⟨rfl, rfl⟩⟩
set_option maxRecDepth 100000 in
theorem mb_X5_init : MB yX5_init cX5_init 1 none 0 := ⟨gd_t 6 ⟨rfl, rfl⟩, gd_t 157 ⟨rfl, rfl⟩, by decide +kernel, by decide +kernel, by decide +kernel⟩
set_option maxRecDepth 100000 in
theorem mb_X5_isFullOfBytes : MB yX5_isFullOfBytes cX5_isFullOfBytes 1 (some .boolean) 0 := ⟨gd_t 6 ⟨rfl, rfl⟩, gd_t 632 ⟨rfl, rfl⟩, by decide +kernel, by decide +kernel, by decide +kernel⟩
set_option maxRecDepth 100000 in
theorem mi_X5_isFullOfBytes : MI yX5_isFullOfBytes := ⟨gd_t 630 ⟨rfl, rfl⟩, gd_t 631 ⟨rfl, rfl⟩⟩
set_option maxRecDepth 100000 in
theorem mb_X5_readClause : MB yX5_readClause cX5_readClause 3 (some .boolean) 0 := ⟨gd_t 6 ⟨rfl, rfl⟩, gd_t 653 ⟨rfl, rfl⟩, by decide +kernel, by decide +kernel, by decide +kernel⟩
set_option maxRecDepth 100000 in
theorem mi_X5_readClause : MI yX5_readClause := ⟨gd_t 652 ⟨rfl, rfl⟩, gd_p 6 ⟨rfl, rfl⟩⟩
set_option maxRecDepth 100000 in
theorem mb_X5_readClauses : MB yX5_readClauses cX5_readClauses 2 (some .boolean) 0 := ⟨gd_t 6 ⟨rfl, rfl⟩, gd_t 648 ⟨rfl, rfl⟩, by decide +kernel, by decide +kernel, by decide +kernel⟩
set_option maxRecDepth 100000 in
theorem mi_X5_readClauses : MI yX5_readClauses := ⟨gd_t 647 ⟨rfl, rfl⟩, gd_p 5 ⟨rfl, rfl⟩⟩
set_option maxRecDepth 100000 in
theorem mb_X5_readNumber : MB yX5_readNumber cX5_readNumber 3 (some .int) 0 := ⟨gd_t 6 ⟨rfl, rfl⟩, gd_t 726 ⟨rfl, rfl⟩, by decide +kernel, by decide +kernel, by decide +kernel⟩
set_option maxRecDepth 100000 in
theorem mi_X5_readNumber : MI yX5_readNumber := ⟨gd_t 725 ⟨rfl, rfl⟩, gd_p 10 ⟨rfl, rfl⟩⟩
set_option maxRecDepth 100000 in
theorem mb_X5_readSign : MB yX5_readSign cX5_readSign 2 (some .boolean) 1 := ⟨gd_t 6 ⟨rfl, rfl⟩, gd_t 722 ⟨rfl, rfl⟩, by decide +kernel, by decide +kernel, by decide +kernel⟩
set_option maxRecDepth 100000 in
theorem mi_X5_readSign : MI yX5_readSign := ⟨gd_t 721 ⟨rfl, rfl⟩, gd_p 9 ⟨rfl, rfl⟩⟩
set_option maxRecDepth 100000 in
theorem mb_X5_readWord : MB yX5_readWord cX5_readWord 5 (some .int) 0 := ⟨gd_t 6 ⟨rfl, rfl⟩, gd_t 657 ⟨rfl, rfl⟩, by decide +kernel, by decide +kernel, by decide +kernel⟩
set_option maxRecDepth 100000 in
theorem mi_X5_readWord : MI yX5_readWord := ⟨gd_t 656 ⟨rfl, rfl⟩, gd_p 7 ⟨rfl, rfl⟩⟩
set_option maxRecDepth 100000 in
theorem mb_X5_takeNewValues : MB yX5_takeNewValues cX5_takeNewValues 3 (some .int) 0 := ⟨gd_t 6 ⟨rfl, rfl⟩, gd_t 733 ⟨rfl, rfl⟩, by decide +kernel, by decide +kernel, by decide +kernel⟩
set_option maxRecDepth 100000 in
theorem mi_X5_takeNewValues : MI yX5_takeNewValues := ⟨gd_t 732 ⟨rfl, rfl⟩, gd_p 11 ⟨rfl, rfl⟩⟩
set_option maxRecDepth 100000 in
theorem mb_X5_takeTape : MB yX5_takeTape cX5_takeTape 2 (some .int) 0 := ⟨gd_t 6 ⟨rfl, rfl⟩, gd_t 644 ⟨rfl, rfl⟩, by decide +kernel, by decide +kernel, by decide +kernel⟩
set_option maxRecDepth 100000 in
theorem mi_X5_takeTape : MI yX5_takeTape := ⟨gd_t 642 ⟨rfl, rfl⟩, gd_t 643 ⟨rfl, rfl⟩⟩
set_option maxRecDepth 100000 in
theorem mb_X5_valueOf : MB yX5_valueOf cX5_valueOf 2 (some .int) 1 := ⟨gd_t 6 ⟨rfl, rfl⟩, gd_t 591 ⟨rfl, rfl⟩, by decide +kernel, by decide +kernel, by decide +kernel⟩
set_option maxRecDepth 100000 in
theorem mi_X5_valueOf : MI yX5_valueOf := ⟨gd_t 589 ⟨rfl, rfl⟩, gd_t 590 ⟨rfl, rfl⟩⟩
set_option maxRecDepth 100000 in
theorem mb_X5_wordOf : MB yX5_wordOf cX5_wordOf 1 (some (.object "java/lang/String")) 1 := ⟨gd_t 6 ⟨rfl, rfl⟩, gd_t 660 ⟨rfl, rfl⟩, by decide +kernel, by decide +kernel, by decide +kernel⟩
set_option maxRecDepth 100000 in
theorem ms_X5_wordOf : Cond.static yX5_wordOf ∈ gd := gd_t 659 ⟨rfl, rfl⟩
set_option maxRecDepth 100000 in
theorem mb_X6_addRow : MB yX6_addRow cX6_addRow 6 none 3 := ⟨gd_t 12 ⟨rfl, rfl⟩, gd_t 966 ⟨rfl, rfl⟩, by decide +kernel, by decide +kernel, by decide +kernel⟩
set_option maxRecDepth 100000 in
theorem mi_X6_addRow : MI yX6_addRow := ⟨gd_t 965 ⟨rfl, rfl⟩, gd_p 21 ⟨rfl, rfl⟩⟩
set_option maxRecDepth 100000 in
theorem mb_X6_canTell : MB yX6_canTell cX6_canTell 1 (some .boolean) 0 := ⟨gd_t 12 ⟨rfl, rfl⟩, gd_t 948 ⟨rfl, rfl⟩, by decide +kernel, by decide +kernel, by decide +kernel⟩
set_option maxRecDepth 100000 in
theorem mi_X6_canTell : MI yX6_canTell := ⟨gd_t 946 ⟨rfl, rfl⟩, gd_t 947 ⟨rfl, rfl⟩⟩
set_option maxRecDepth 100000 in
theorem mb_X6_countWays : MB yX6_countWays cX6_countWays 4 none 0 := ⟨gd_t 12 ⟨rfl, rfl⟩, gd_t 956 ⟨rfl, rfl⟩, by decide +kernel, by decide +kernel, by decide +kernel⟩
set_option maxRecDepth 100000 in
theorem mi_X6_countWays : MI yX6_countWays := ⟨gd_t 955 ⟨rfl, rfl⟩, gd_p 19 ⟨rfl, rfl⟩⟩
set_option maxRecDepth 100000 in
theorem mb_X6_gather : MB yX6_gather cX6_gather 5 none 2 := ⟨gd_t 12 ⟨rfl, rfl⟩, gd_t 932 ⟨rfl, rfl⟩, by decide +kernel, by decide +kernel, by decide +kernel⟩
set_option maxRecDepth 100000 in
theorem mi_X6_gather : MI yX6_gather := ⟨gd_t 930 ⟨rfl, rfl⟩, gd_t 931 ⟨rfl, rfl⟩⟩
set_option maxRecDepth 100000 in
theorem mb_X6_init : MB yX6_init cX6_init 2 none 1 := ⟨gd_t 12 ⟨rfl, rfl⟩, gd_t 280 ⟨rfl, rfl⟩, by decide +kernel, by decide +kernel, by decide +kernel⟩
set_option maxRecDepth 100000 in
theorem mb_X6_isBeyondDoubt : MB yX6_isBeyondDoubt cX6_isBeyondDoubt 5 (some .boolean) 0 := ⟨gd_t 12 ⟨rfl, rfl⟩, gd_t 952 ⟨rfl, rfl⟩, by decide +kernel, by decide +kernel, by decide +kernel⟩
set_option maxRecDepth 100000 in
theorem mi_X6_isBeyondDoubt : MI yX6_isBeyondDoubt := ⟨gd_t 950 ⟨rfl, rfl⟩, gd_t 951 ⟨rfl, rfl⟩⟩
set_option maxRecDepth 100000 in
theorem mb_X6_rankOf : MB yX6_rankOf cX6_rankOf 4 (some .int) 1 := ⟨gd_t 12 ⟨rfl, rfl⟩, gd_t 961 ⟨rfl, rfl⟩, by decide +kernel, by decide +kernel, by decide +kernel⟩
set_option maxRecDepth 100000 in
theorem mi_X6_rankOf : MI yX6_rankOf := ⟨gd_t 960 ⟨rfl, rfl⟩, gd_p 20 ⟨rfl, rfl⟩⟩
set_option maxRecDepth 100000 in
theorem mb_X6_watchedRanks : MB yX6_watchedRanks cX6_watchedRanks 3 (some .int) 0 := ⟨gd_t 12 ⟨rfl, rfl⟩, gd_t 970 ⟨rfl, rfl⟩, by decide +kernel, by decide +kernel, by decide +kernel⟩
set_option maxRecDepth 100000 in
theorem mi_X6_watchedRanks : MI yX6_watchedRanks := ⟨gd_t 969 ⟨rfl, rfl⟩, gd_p 22 ⟨rfl, rfl⟩⟩
set_option maxRecDepth 100000 in
theorem mb_X7_add : MB yX7_add cX7_add 5 (some .int) 4 := ⟨gd_t 9 ⟨rfl, rfl⟩, gd_t 774 ⟨rfl, rfl⟩, by decide +kernel, by decide +kernel, by decide +kernel⟩
set_option maxRecDepth 100000 in
theorem mi_X7_add : MI yX7_add := ⟨gd_t 772 ⟨rfl, rfl⟩, gd_t 773 ⟨rfl, rfl⟩⟩
set_option maxRecDepth 100000 in
theorem mb_X7_init : MB yX7_init cX7_init 1 none 0 := ⟨gd_t 9 ⟨rfl, rfl⟩, gd_t 222 ⟨rfl, rfl⟩, by decide +kernel, by decide +kernel, by decide +kernel⟩
set_option maxRecDepth 100000 in
theorem mb_X7_isFull : MB yX7_isFull cX7_isFull 1 (some .boolean) 0 := ⟨gd_t 9 ⟨rfl, rfl⟩, gd_t 770 ⟨rfl, rfl⟩, by decide +kernel, by decide +kernel, by decide +kernel⟩
set_option maxRecDepth 100000 in
theorem mi_X7_isFull : MI yX7_isFull := ⟨gd_t 768 ⟨rfl, rfl⟩, gd_t 769 ⟨rfl, rfl⟩⟩
set_option maxRecDepth 100000 in
theorem mb_X7_many : MB yX7_many cX7_many 1 (some .int) 0 := ⟨gd_t 9 ⟨rfl, rfl⟩, gd_t 999 ⟨rfl, rfl⟩, by decide +kernel, by decide +kernel, by decide +kernel⟩
set_option maxRecDepth 100000 in
theorem mi_X7_many : MI yX7_many := ⟨gd_t 997 ⟨rfl, rfl⟩, gd_t 998 ⟨rfl, rfl⟩⟩
set_option maxRecDepth 100000 in
theorem mb_X7_minutesFor : MB yX7_minutesFor cX7_minutesFor 2 (some .int) 1 := ⟨gd_t 9 ⟨rfl, rfl⟩, gd_t 844 ⟨rfl, rfl⟩, by decide +kernel, by decide +kernel, by decide +kernel⟩
set_option maxRecDepth 100000 in
theorem mi_X7_minutesFor : MI yX7_minutesFor := ⟨gd_t 842 ⟨rfl, rfl⟩, gd_t 843 ⟨rfl, rfl⟩⟩
set_option maxRecDepth 100000 in
theorem mb_X7_minutesIn : MB yX7_minutesIn cX7_minutesIn 5 (some .int) 2 := ⟨gd_t 9 ⟨rfl, rfl⟩, gd_t 826 ⟨rfl, rfl⟩, by decide +kernel, by decide +kernel, by decide +kernel⟩
set_option maxRecDepth 100000 in
theorem mi_X7_minutesIn : MI yX7_minutesIn := ⟨gd_t 824 ⟨rfl, rfl⟩, gd_t 825 ⟨rfl, rfl⟩⟩
set_option maxRecDepth 100000 in
theorem mb_X8_addCycle : MB yX8_addCycle cX8_addCycle 5 (some .int) 4 := ⟨gd_t 3 ⟨rfl, rfl⟩, gd_t 433 ⟨rfl, rfl⟩, by decide +kernel, by decide +kernel, by decide +kernel⟩
set_option maxRecDepth 100000 in
theorem mi_X8_addCycle : MI yX8_addCycle := ⟨gd_t 431 ⟨rfl, rfl⟩, gd_t 432 ⟨rfl, rfl⟩⟩
set_option maxRecDepth 100000 in
theorem mb_X8_addFilm : MB yX8_addFilm cX8_addFilm 3 (some .int) 2 := ⟨gd_t 3 ⟨rfl, rfl⟩, gd_t 413 ⟨rfl, rfl⟩, by decide +kernel, by decide +kernel, by decide +kernel⟩
set_option maxRecDepth 100000 in
theorem mi_X8_addFilm : MI yX8_addFilm := ⟨gd_t 411 ⟨rfl, rfl⟩, gd_t 412 ⟨rfl, rfl⟩⟩
set_option maxRecDepth 100000 in
theorem mb_X8_cycleMany : MB yX8_cycleMany cX8_cycleMany 1 (some .int) 0 := ⟨gd_t 3 ⟨rfl, rfl⟩, gd_t 441 ⟨rfl, rfl⟩, by decide +kernel, by decide +kernel, by decide +kernel⟩
set_option maxRecDepth 100000 in
theorem mi_X8_cycleMany : MI yX8_cycleMany := ⟨gd_t 439 ⟨rfl, rfl⟩, gd_t 440 ⟨rfl, rfl⟩⟩
set_option maxRecDepth 100000 in
theorem mb_X8_filmMany : MB yX8_filmMany cX8_filmMany 1 (some .int) 0 := ⟨gd_t 3 ⟨rfl, rfl⟩, gd_t 991 ⟨rfl, rfl⟩, by decide +kernel, by decide +kernel, by decide +kernel⟩
set_option maxRecDepth 100000 in
theorem mi_X8_filmMany : MI yX8_filmMany := ⟨gd_t 989 ⟨rfl, rfl⟩, gd_t 990 ⟨rfl, rfl⟩⟩
set_option maxRecDepth 100000 in
theorem mb_X8_gatherNormals : MB yX8_gatherNormals cX8_gatherNormals 3 none 1 := ⟨gd_t 3 ⟨rfl, rfl⟩, gd_t 465 ⟨rfl, rfl⟩, by decide +kernel, by decide +kernel, by decide +kernel⟩
set_option maxRecDepth 100000 in
theorem mi_X8_gatherNormals : MI yX8_gatherNormals := ⟨gd_t 464 ⟨rfl, rfl⟩, gd_p 1 ⟨rfl, rfl⟩⟩
set_option maxRecDepth 100000 in
theorem mb_X8_habitOf : MB yX8_habitOf cX8_habitOf 2 (some .int) 1 := ⟨gd_t 3 ⟨rfl, rfl⟩, gd_t 421 ⟨rfl, rfl⟩, by decide +kernel, by decide +kernel, by decide +kernel⟩
set_option maxRecDepth 100000 in
theorem mi_X8_habitOf : MI yX8_habitOf := ⟨gd_t 419 ⟨rfl, rfl⟩, gd_t 420 ⟨rfl, rfl⟩⟩
set_option maxRecDepth 100000 in
theorem mb_X8_init : MB yX8_init cX8_init 2 none 1 := ⟨gd_t 3 ⟨rfl, rfl⟩, gd_t 51 ⟨rfl, rfl⟩, by decide +kernel, by decide +kernel, by decide +kernel⟩
set_option maxRecDepth 100000 in
theorem mb_X8_isFullOfCycles : MB yX8_isFullOfCycles cX8_isFullOfCycles 1 (some .boolean) 0 := ⟨gd_t 3 ⟨rfl, rfl⟩, gd_t 429 ⟨rfl, rfl⟩, by decide +kernel, by decide +kernel, by decide +kernel⟩
set_option maxRecDepth 100000 in
theorem mi_X8_isFullOfCycles : MI yX8_isFullOfCycles := ⟨gd_t 427 ⟨rfl, rfl⟩, gd_t 428 ⟨rfl, rfl⟩⟩
set_option maxRecDepth 100000 in
theorem mb_X8_isFullOfFilms : MB yX8_isFullOfFilms cX8_isFullOfFilms 1 (some .boolean) 0 := ⟨gd_t 3 ⟨rfl, rfl⟩, gd_t 409 ⟨rfl, rfl⟩, by decide +kernel, by decide +kernel, by decide +kernel⟩
set_option maxRecDepth 100000 in
theorem mi_X8_isFullOfFilms : MI yX8_isFullOfFilms := ⟨gd_t 407 ⟨rfl, rfl⟩, gd_t 408 ⟨rfl, rfl⟩⟩
set_option maxRecDepth 100000 in
theorem mb_X8_isTimed : MB yX8_isTimed cX8_isTimed 3 (some .boolean) 1 := ⟨gd_t 3 ⟨rfl, rfl⟩, gd_t 548 ⟨rfl, rfl⟩, by decide +kernel, by decide +kernel, by decide +kernel⟩
set_option maxRecDepth 100000 in
theorem mi_X8_isTimed : MI yX8_isTimed := ⟨gd_t 546 ⟨rfl, rfl⟩, gd_t 547 ⟨rfl, rfl⟩⟩
set_option maxRecDepth 100000 in
theorem mb_X8_keepNormals : MB yX8_keepNormals cX8_keepNormals 4 none 0 := ⟨gd_t 3 ⟨rfl, rfl⟩, gd_t 474 ⟨rfl, rfl⟩, by decide +kernel, by decide +kernel, by decide +kernel⟩
set_option maxRecDepth 100000 in
theorem mi_X8_keepNormals : MI yX8_keepNormals := ⟨gd_t 473 ⟨rfl, rfl⟩, gd_p 3 ⟨rfl, rfl⟩⟩
set_option maxRecDepth 100000 in
theorem mb_X8_normalOf : MB yX8_normalOf cX8_normalOf 3 (some .int) 1 := ⟨gd_t 3 ⟨rfl, rfl⟩, gd_t 445 ⟨rfl, rfl⟩, by decide +kernel, by decide +kernel, by decide +kernel⟩
set_option maxRecDepth 100000 in
theorem mi_X8_normalOf : MI yX8_normalOf := ⟨gd_t 443 ⟨rfl, rfl⟩, gd_t 444 ⟨rfl, rfl⟩⟩
set_option maxRecDepth 100000 in
theorem mb_X8_putInOrder : MB yX8_putInOrder cX8_putInOrder 3 none 1 := ⟨gd_t 3 ⟨rfl, rfl⟩, gd_t 470 ⟨rfl, rfl⟩, by decide +kernel, by decide +kernel, by decide +kernel⟩
set_option maxRecDepth 100000 in
theorem mi_X8_putInOrder : MI yX8_putInOrder := ⟨gd_t 469 ⟨rfl, rfl⟩, gd_p 2 ⟨rfl, rfl⟩⟩
set_option maxRecDepth 100000 in
theorem mb_X8_studied : MB yX8_studied cX8_studied 2 (some .int) 1 := ⟨gd_t 3 ⟨rfl, rfl⟩, gd_t 482 ⟨rfl, rfl⟩, by decide +kernel, by decide +kernel, by decide +kernel⟩
set_option maxRecDepth 100000 in
theorem mi_X8_studied : MI yX8_studied := ⟨gd_t 480 ⟨rfl, rfl⟩, gd_t 481 ⟨rfl, rfl⟩⟩
set_option maxRecDepth 100000 in
theorem mb_X8_study : MB yX8_study cX8_study 3 none 1 := ⟨gd_t 3 ⟨rfl, rfl⟩, gd_t 461 ⟨rfl, rfl⟩, by decide +kernel, by decide +kernel, by decide +kernel⟩
set_option maxRecDepth 100000 in
theorem mi_X8_study : MI yX8_study := ⟨gd_t 459 ⟨rfl, rfl⟩, gd_t 460 ⟨rfl, rfl⟩⟩
set_option maxRecDepth 100000 in
theorem mb_X9_add : MB yX9_add cX9_add 5 (some .int) 4 := ⟨gd_t 7 ⟨rfl, rfl⟩, gd_t 758 ⟨rfl, rfl⟩, by decide +kernel, by decide +kernel, by decide +kernel⟩
set_option maxRecDepth 100000 in
theorem mi_X9_add : MI yX9_add := ⟨gd_t 756 ⟨rfl, rfl⟩, gd_t 757 ⟨rfl, rfl⟩⟩
set_option maxRecDepth 100000 in
theorem mb_X9_earnedBy : MB yX9_earnedBy cX9_earnedBy 6 (some .int) 1 := ⟨gd_t 7 ⟨rfl, rfl⟩, gd_t 794 ⟨rfl, rfl⟩, by decide +kernel, by decide +kernel, by decide +kernel⟩
set_option maxRecDepth 100000 in
theorem mi_X9_earnedBy : MI yX9_earnedBy := ⟨gd_t 792 ⟨rfl, rfl⟩, gd_t 793 ⟨rfl, rfl⟩⟩
set_option maxRecDepth 100000 in
theorem mb_X9_earnedIn : MB yX9_earnedIn cX9_earnedIn 5 (some .int) 2 := ⟨gd_t 7 ⟨rfl, rfl⟩, gd_t 817 ⟨rfl, rfl⟩, by decide +kernel, by decide +kernel, by decide +kernel⟩
set_option maxRecDepth 100000 in
theorem mi_X9_earnedIn : MI yX9_earnedIn := ⟨gd_t 815 ⟨rfl, rfl⟩, gd_t 816 ⟨rfl, rfl⟩⟩
set_option maxRecDepth 100000 in
theorem mb_X9_goodAt : MB yX9_goodAt cX9_goodAt 2 (some .int) 1 := ⟨gd_t 7 ⟨rfl, rfl⟩, gd_t 939 ⟨rfl, rfl⟩, by decide +kernel, by decide +kernel, by decide +kernel⟩
set_option maxRecDepth 100000 in
theorem mi_X9_goodAt : MI yX9_goodAt := ⟨gd_t 937 ⟨rfl, rfl⟩, gd_t 938 ⟨rfl, rfl⟩⟩
set_option maxRecDepth 100000 in
theorem mb_X9_init : MB yX9_init cX9_init 3 none 2 := ⟨gd_t 7 ⟨rfl, rfl⟩, gd_t 179 ⟨rfl, rfl⟩, by decide +kernel, by decide +kernel, by decide +kernel⟩
set_option maxRecDepth 100000 in
theorem mb_X9_isFull : MB yX9_isFull cX9_isFull 1 (some .boolean) 0 := ⟨gd_t 7 ⟨rfl, rfl⟩, gd_t 754 ⟨rfl, rfl⟩, by decide +kernel, by decide +kernel, by decide +kernel⟩
set_option maxRecDepth 100000 in
theorem mi_X9_isFull : MI yX9_isFull := ⟨gd_t 752 ⟨rfl, rfl⟩, gd_t 753 ⟨rfl, rfl⟩⟩
set_option maxRecDepth 100000 in
theorem mb_X9_isWatched : MB yX9_isWatched cX9_isWatched 2 (some .boolean) 1 := ⟨gd_t 7 ⟨rfl, rfl⟩, gd_t 944 ⟨rfl, rfl⟩, by decide +kernel, by decide +kernel, by decide +kernel⟩
set_option maxRecDepth 100000 in
theorem mi_X9_isWatched : MI yX9_isWatched := ⟨gd_t 942 ⟨rfl, rfl⟩, gd_t 943 ⟨rfl, rfl⟩⟩
set_option maxRecDepth 100000 in
theorem mb_X9_jobAt : MB yX9_jobAt cX9_jobAt 2 (some .int) 1 := ⟨gd_t 7 ⟨rfl, rfl⟩, gd_t 881 ⟨rfl, rfl⟩, by decide +kernel, by decide +kernel, by decide +kernel⟩
set_option maxRecDepth 100000 in
theorem mi_X9_jobAt : MI yX9_jobAt := ⟨gd_t 879 ⟨rfl, rfl⟩, gd_t 880 ⟨rfl, rfl⟩⟩
set_option maxRecDepth 100000 in
theorem mb_X9_learnersMore : MB yX9_learnersMore cX9_learnersMore 5 (some .int) 2 := ⟨gd_t 7 ⟨rfl, rfl⟩, gd_t 804 ⟨rfl, rfl⟩, by decide +kernel, by decide +kernel, by decide +kernel⟩
set_option maxRecDepth 100000 in
theorem mi_X9_learnersMore : MI yX9_learnersMore := ⟨gd_t 803 ⟨rfl, rfl⟩, gd_p 13 ⟨rfl, rfl⟩⟩
set_option maxRecDepth 100000 in
theorem mb_X9_many : MB yX9_many cX9_many 1 (some .int) 0 := ⟨gd_t 7 ⟨rfl, rfl⟩, gd_t 790 ⟨rfl, rfl⟩, by decide +kernel, by decide +kernel, by decide +kernel⟩
set_option maxRecDepth 100000 in
theorem mi_X9_many : MI yX9_many := ⟨gd_t 788 ⟨rfl, rfl⟩, gd_t 789 ⟨rfl, rfl⟩⟩
set_option maxRecDepth 100000 in
theorem mb_X9_minutesAt : MB yX9_minutesAt cX9_minutesAt 2 (some .int) 1 := ⟨gd_t 7 ⟨rfl, rfl⟩, gd_t 886 ⟨rfl, rfl⟩, by decide +kernel, by decide +kernel, by decide +kernel⟩
set_option maxRecDepth 100000 in
theorem mi_X9_minutesAt : MI yX9_minutesAt := ⟨gd_t 884 ⟨rfl, rfl⟩, gd_t 885 ⟨rfl, rfl⟩⟩
set_option maxRecDepth 100000 in
theorem mb_X9_minutesIn : MB yX9_minutesIn cX9_minutesIn 5 (some .int) 2 := ⟨gd_t 7 ⟨rfl, rfl⟩, gd_t 831 ⟨rfl, rfl⟩, by decide +kernel, by decide +kernel, by decide +kernel⟩
set_option maxRecDepth 100000 in
theorem mi_X9_minutesIn : MI yX9_minutesIn := ⟨gd_t 829 ⟨rfl, rfl⟩, gd_t 830 ⟨rfl, rfl⟩⟩
set_option maxRecDepth 100000 in
theorem mb_X9_swapBegin : MB yX9_swapBegin cX9_swapBegin 5 (some .int) 3 := ⟨gd_t 7 ⟨rfl, rfl⟩, gd_t 782 ⟨rfl, rfl⟩, by decide +kernel, by decide +kernel, by decide +kernel⟩
set_option maxRecDepth 100000 in
theorem mi_X9_swapBegin : MI yX9_swapBegin := ⟨gd_t 780 ⟨rfl, rfl⟩, gd_t 781 ⟨rfl, rfl⟩⟩
set_option maxRecDepth 100000 in
theorem mb_X9_workerAt : MB yX9_workerAt cX9_workerAt 2 (some .int) 1 := ⟨gd_t 7 ⟨rfl, rfl⟩, gd_t 877 ⟨rfl, rfl⟩, by decide +kernel, by decide +kernel, by decide +kernel⟩
set_option maxRecDepth 100000 in
theorem mi_X9_workerAt : MI yX9_workerAt := ⟨gd_t 875 ⟨rfl, rfl⟩, gd_t 876 ⟨rfl, rfl⟩⟩
