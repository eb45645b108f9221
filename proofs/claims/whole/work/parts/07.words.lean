/-! THE WORDS that the rows take, each by its place among the tables -/
set_option maxRecDepth 100000 in
theorem lay_X0 : ∀ w ∈ u_ws RX0 TX0 4, w ∈ gd := by
  show ∀ w ∈ [u_lay RX0 TX0 0, u_lay RX0 TX0 1, u_lay RX0 TX0 2, u_lay RX0 TX0 3], w ∈ gd
  exact List.forall_mem_cons.mpr ⟨gd_2 26 (by decide +kernel), List.forall_mem_cons.mpr ⟨gd_2 28 (by decide +kernel), List.forall_mem_cons.mpr ⟨gd_2 30 (by decide +kernel), List.forall_mem_cons.mpr ⟨gd_2 32 (by decide +kernel), fun _ h => absurd h List.not_mem_nil⟩⟩⟩⟩
set_option maxRecDepth 100000 in
theorem lay_X1 : ∀ w ∈ u_ws RX1 TX1 4, w ∈ gd := by
  show ∀ w ∈ [u_lay RX1 TX1 0, u_lay RX1 TX1 1, u_lay RX1 TX1 2, u_lay RX1 TX1 3], w ∈ gd
  exact List.forall_mem_cons.mpr ⟨gd_1 37 (by decide +kernel), List.forall_mem_cons.mpr ⟨gd_1 39 (by decide +kernel), List.forall_mem_cons.mpr ⟨gd_1 41 (by decide +kernel), List.forall_mem_cons.mpr ⟨gd_1 43 (by decide +kernel), fun _ h => absurd h List.not_mem_nil⟩⟩⟩⟩
set_option maxRecDepth 100000 in
theorem lay_X2 : ∀ w ∈ u_ws RX2 TX2 5, w ∈ gd := by
  show ∀ w ∈ [u_lay RX2 TX2 0, u_lay RX2 TX2 1, u_lay RX2 TX2 2, u_lay RX2 TX2 3, u_lay RX2 TX2 4], w ∈ gd
  exact List.forall_mem_cons.mpr ⟨gd_1 113 (by decide +kernel), List.forall_mem_cons.mpr ⟨gd_1 115 (by decide +kernel), List.forall_mem_cons.mpr ⟨gd_1 117 (by decide +kernel), List.forall_mem_cons.mpr ⟨gd_1 119 (by decide +kernel), List.forall_mem_cons.mpr ⟨gd_1 121 (by decide +kernel), fun _ h => absurd h List.not_mem_nil⟩⟩⟩⟩⟩
set_option maxRecDepth 100000 in
theorem lay_X3 : ∀ w ∈ u_ws RX3 TX3 3, w ∈ gd := by
  show ∀ w ∈ [u_lay RX3 TX3 0, u_lay RX3 TX3 1, u_lay RX3 TX3 2], w ∈ gd
  exact List.forall_mem_cons.mpr ⟨gd_2 9 (by decide +kernel), List.forall_mem_cons.mpr ⟨gd_2 11 (by decide +kernel), List.forall_mem_cons.mpr ⟨gd_2 13 (by decide +kernel), fun _ h => absurd h List.not_mem_nil⟩⟩⟩
set_option maxRecDepth 100000 in
theorem lay_X4 : ∀ w ∈ u_ws RX4 TX4 7, w ∈ gd := by
  show ∀ w ∈ [u_lay RX4 TX4 0, u_lay RX4 TX4 1, u_lay RX4 TX4 2, u_lay RX4 TX4 3, u_lay RX4 TX4 4, u_lay RX4 TX4 5, u_lay RX4 TX4 6], w ∈ gd
  exact List.forall_mem_cons.mpr ⟨gd_1 138 (by decide +kernel), List.forall_mem_cons.mpr ⟨gd_1 140 (by decide +kernel), List.forall_mem_cons.mpr ⟨gd_1 142 (by decide +kernel), List.forall_mem_cons.mpr ⟨gd_1 144 (by decide +kernel), List.forall_mem_cons.mpr ⟨gd_1 146 (by decide +kernel), List.forall_mem_cons.mpr ⟨gd_1 148 (by decide +kernel), List.forall_mem_cons.mpr ⟨gd_1 150 (by decide +kernel), fun _ h => absurd h List.not_mem_nil⟩⟩⟩⟩⟩⟩⟩
set_option maxRecDepth 100000 in
theorem lay_X5 : ∀ w ∈ u_ws RX5 TX5 5, w ∈ gd := by
  show ∀ w ∈ [u_lay RX5 TX5 0, u_lay RX5 TX5 1, u_lay RX5 TX5 2, u_lay RX5 TX5 3, u_lay RX5 TX5 4], w ∈ gd
  exact List.forall_mem_cons.mpr ⟨gd_1 164 (by decide +kernel), List.forall_mem_cons.mpr ⟨gd_1 166 (by decide +kernel), List.forall_mem_cons.mpr ⟨gd_1 168 (by decide +kernel), List.forall_mem_cons.mpr ⟨gd_1 170 (by decide +kernel), List.forall_mem_cons.mpr ⟨gd_1 172 (by decide +kernel), fun _ h => absurd h List.not_mem_nil⟩⟩⟩⟩⟩
set_option maxRecDepth 100000 in
theorem lay_X6 : ∀ w ∈ u_ws RX6 TX6 6, w ∈ gd := by
  show ∀ w ∈ [u_lay RX6 TX6 0, u_lay RX6 TX6 1, u_lay RX6 TX6 2, u_lay RX6 TX6 3, u_lay RX6 TX6 4, u_lay RX6 TX6 5], w ∈ gd
  exact List.forall_mem_cons.mpr ⟨gd_2 50 (by decide +kernel), List.forall_mem_cons.mpr ⟨gd_2 52 (by decide +kernel), List.forall_mem_cons.mpr ⟨gd_2 54 (by decide +kernel), List.forall_mem_cons.mpr ⟨gd_2 56 (by decide +kernel), List.forall_mem_cons.mpr ⟨gd_2 58 (by decide +kernel), List.forall_mem_cons.mpr ⟨gd_2 60 (by decide +kernel), fun _ h => absurd h List.not_mem_nil⟩⟩⟩⟩⟩⟩
set_option maxRecDepth 100000 in
theorem lay_X7 : ∀ w ∈ u_ws RX7 TX7 5, w ∈ gd := by
  show ∀ w ∈ [u_lay RX7 TX7 0, u_lay RX7 TX7 1, u_lay RX7 TX7 2, u_lay RX7 TX7 3, u_lay RX7 TX7 4], w ∈ gd
  exact List.forall_mem_cons.mpr ⟨gd_1 229 (by decide +kernel), List.forall_mem_cons.mpr ⟨gd_1 231 (by decide +kernel), List.forall_mem_cons.mpr ⟨gd_1 233 (by decide +kernel), List.forall_mem_cons.mpr ⟨gd_1 235 (by decide +kernel), List.forall_mem_cons.mpr ⟨gd_1 237 (by decide +kernel), fun _ h => absurd h List.not_mem_nil⟩⟩⟩⟩⟩
set_option maxRecDepth 100000 in
theorem lay_X8 : ∀ w ∈ u_ws RX8 TX8 16, w ∈ gd := by
  show ∀ w ∈ [u_lay RX8 TX8 0, u_lay RX8 TX8 1, u_lay RX8 TX8 2, u_lay RX8 TX8 3, u_lay RX8 TX8 4, u_lay RX8 TX8 5, u_lay RX8 TX8 6, u_lay RX8 TX8 7, u_lay RX8 TX8 8, u_lay RX8 TX8 9, u_lay RX8 TX8 10, u_lay RX8 TX8 11, u_lay RX8 TX8 12, u_lay RX8 TX8 13, u_lay RX8 TX8 14, u_lay RX8 TX8 15], w ∈ gd
  exact List.forall_mem_cons.mpr ⟨gd_1 69 (by decide +kernel), List.forall_mem_cons.mpr ⟨gd_1 71 (by decide +kernel), List.forall_mem_cons.mpr ⟨gd_1 73 (by decide +kernel), List.forall_mem_cons.mpr ⟨gd_1 75 (by decide +kernel), List.forall_mem_cons.mpr ⟨gd_1 77 (by decide +kernel), List.forall_mem_cons.mpr ⟨gd_1 79 (by decide +kernel), List.forall_mem_cons.mpr ⟨gd_1 81 (by decide +kernel), List.forall_mem_cons.mpr ⟨gd_1 83 (by decide +kernel), List.forall_mem_cons.mpr ⟨gd_1 85 (by decide +kernel), List.forall_mem_cons.mpr ⟨gd_1 87 (by decide +kernel), List.forall_mem_cons.mpr ⟨gd_1 89 (by decide +kernel), List.forall_mem_cons.mpr ⟨gd_1 91 (by decide +kernel), List.forall_mem_cons.mpr ⟨gd_1 93 (by decide +kernel), List.forall_mem_cons.mpr ⟨gd_1 95 (by decide +kernel), List.forall_mem_cons.mpr ⟨gd_1 97 (by decide +kernel), List.forall_mem_cons.mpr ⟨gd_1 99 (by decide +kernel), fun _ h => absurd h List.not_mem_nil⟩⟩⟩⟩⟩⟩⟩⟩⟩⟩⟩⟩⟩⟩⟩⟩
set_option maxRecDepth 100000 in
theorem lay_X9 : ∀ w ∈ u_ws RX9 TX9 11, w ∈ gd := by
  show ∀ w ∈ [u_lay RX9 TX9 0, u_lay RX9 TX9 1, u_lay RX9 TX9 2, u_lay RX9 TX9 3, u_lay RX9 TX9 4, u_lay RX9 TX9 5, u_lay RX9 TX9 6, u_lay RX9 TX9 7, u_lay RX9 TX9 8, u_lay RX9 TX9 9, u_lay RX9 TX9 10], w ∈ gd
  exact List.forall_mem_cons.mpr ⟨gd_1 195 (by decide +kernel), List.forall_mem_cons.mpr ⟨gd_1 197 (by decide +kernel), List.forall_mem_cons.mpr ⟨gd_1 199 (by decide +kernel), List.forall_mem_cons.mpr ⟨gd_1 201 (by decide +kernel), List.forall_mem_cons.mpr ⟨gd_1 203 (by decide +kernel), List.forall_mem_cons.mpr ⟨gd_1 205 (by decide +kernel), List.forall_mem_cons.mpr ⟨gd_1 207 (by decide +kernel), List.forall_mem_cons.mpr ⟨gd_1 209 (by decide +kernel), List.forall_mem_cons.mpr ⟨gd_1 211 (by decide +kernel), List.forall_mem_cons.mpr ⟨gd_1 213 (by decide +kernel), List.forall_mem_cons.mpr ⟨gd_1 215 (by decide +kernel), fun _ h => absurd h List.not_mem_nil⟩⟩⟩⟩⟩⟩⟩⟩⟩⟩⟩
set_option maxRecDepth 100000 in
theorem lay_X10 : ∀ w ∈ u_ws RX10 TX10 14, w ∈ gd := by
  show ∀ w ∈ [u_lay RX10 TX10 0, u_lay RX10 TX10 1, u_lay RX10 TX10 2, u_lay RX10 TX10 3, u_lay RX10 TX10 4, u_lay RX10 TX10 5, u_lay RX10 TX10 6, u_lay RX10 TX10 7, u_lay RX10 TX10 8, u_lay RX10 TX10 9, u_lay RX10 TX10 10, u_lay RX10 TX10 11, u_lay RX10 TX10 12, u_lay RX10 TX10 13], w ∈ gd
  exact List.forall_mem_cons.mpr ⟨gd_2 77 (by decide +kernel), List.forall_mem_cons.mpr ⟨gd_2 79 (by decide +kernel), List.forall_mem_cons.mpr ⟨gd_2 81 (by decide +kernel), List.forall_mem_cons.mpr ⟨gd_2 83 (by decide +kernel), List.forall_mem_cons.mpr ⟨gd_2 85 (by decide +kernel), List.forall_mem_cons.mpr ⟨gd_2 87 (by decide +kernel), List.forall_mem_cons.mpr ⟨gd_2 89 (by decide +kernel), List.forall_mem_cons.mpr ⟨gd_2 91 (by decide +kernel), List.forall_mem_cons.mpr ⟨gd_2 93 (by decide +kernel), List.forall_mem_cons.mpr ⟨gd_2 95 (by decide +kernel), List.forall_mem_cons.mpr ⟨gd_2 97 (by decide +kernel), List.forall_mem_cons.mpr ⟨gd_2 99 (by decide +kernel), List.forall_mem_cons.mpr ⟨gd_2 101 (by decide +kernel), List.forall_mem_cons.mpr ⟨gd_2 103 (by decide +kernel), fun _ h => absurd h List.not_mem_nil⟩⟩⟩⟩⟩⟩⟩⟩⟩⟩⟩⟩⟩⟩
set_option maxRecDepth 100000 in
theorem lay_X11 : ∀ w ∈ u_ws RX11 TX11 49, w ∈ gd := by
  show ∀ w ∈ [u_lay RX11 TX11 0, u_lay RX11 TX11 1, u_lay RX11 TX11 2, u_lay RX11 TX11 3, u_lay RX11 TX11 4, u_lay RX11 TX11 5, u_lay RX11 TX11 6, u_lay RX11 TX11 7, u_lay RX11 TX11 8, u_lay RX11 TX11 9, u_lay RX11 TX11 10, u_lay RX11 TX11 11, u_lay RX11 TX11 12, u_lay RX11 TX11 13, u_lay RX11 TX11 14, u_lay RX11 TX11 15, u_lay RX11 TX11 16, u_lay RX11 TX11 17, u_lay RX11 TX11 18, u_lay RX11 TX11 19, u_lay RX11 TX11 20, u_lay RX11 TX11 21, u_lay RX11 TX11 22, u_lay RX11 TX11 23, u_lay RX11 TX11 24, u_lay RX11 TX11 25, u_lay RX11 TX11 26, u_lay RX11 TX11 27, u_lay RX11 TX11 28, u_lay RX11 TX11 29, u_lay RX11 TX11 30, u_lay RX11 TX11 31, u_lay RX11 TX11 32, u_lay RX11 TX11 33, u_lay RX11 TX11 34, u_lay RX11 TX11 35, u_lay RX11 TX11 36, u_lay RX11 TX11 37, u_lay RX11 TX11 38, u_lay RX11 TX11 39, u_lay RX11 TX11 40, u_lay RX11 TX11 41, u_lay RX11 TX11 42, u_lay RX11 TX11 43, u_lay RX11 TX11 44, u_lay RX11 TX11 45, u_lay RX11 TX11 46, u_lay RX11 TX11 47, u_lay RX11 TX11 48], w ∈ gd
  exact List.forall_mem_cons.mpr ⟨gd_5 103 (by decide +kernel), List.forall_mem_cons.mpr ⟨gd_5 105 (by decide +kernel), List.forall_mem_cons.mpr ⟨gd_5 107 (by decide +kernel), List.forall_mem_cons.mpr ⟨gd_5 109 (by decide +kernel), List.forall_mem_cons.mpr ⟨gd_5 111 (by decide +kernel), List.forall_mem_cons.mpr ⟨gd_5 113 (by decide +kernel), List.forall_mem_cons.mpr ⟨gd_5 115 (by decide +kernel), List.forall_mem_cons.mpr ⟨gd_5 117 (by decide +kernel), List.forall_mem_cons.mpr ⟨gd_5 119 (by decide +kernel), List.forall_mem_cons.mpr ⟨gd_5 121 (by decide +kernel), List.forall_mem_cons.mpr ⟨gd_5 123 (by decide +kernel), List.forall_mem_cons.mpr ⟨gd_5 125 (by decide +kernel), List.forall_mem_cons.mpr ⟨gd_5 127 (by decide +kernel), List.forall_mem_cons.mpr ⟨gd_5 129 (by decide +kernel), List.forall_mem_cons.mpr ⟨gd_5 131 (by decide +kernel), List.forall_mem_cons.mpr ⟨gd_5 133 (by decide +kernel), List.forall_mem_cons.mpr ⟨gd_5 135 (by decide +kernel), List.forall_mem_cons.mpr ⟨gd_5 137 (by decide +kernel), List.forall_mem_cons.mpr ⟨gd_5 139 (by decide +kernel), List.forall_mem_cons.mpr ⟨gd_5 141 (by decide +kernel), List.forall_mem_cons.mpr ⟨gd_5 143 (by decide +kernel), List.forall_mem_cons.mpr ⟨gd_5 145 (by decide +kernel), List.forall_mem_cons.mpr ⟨gd_5 147 (by decide +kernel), List.forall_mem_cons.mpr ⟨gd_5 149 (by decide +kernel), List.forall_mem_cons.mpr ⟨gd_5 151 (by decide +kernel), List.forall_mem_cons.mpr ⟨gd_5 153 (by decide +kernel), List.forall_mem_cons.mpr ⟨gd_5 155 (by decide +kernel), List.forall_mem_cons.mpr ⟨gd_5 157 (by decide +kernel), List.forall_mem_cons.mpr ⟨gd_5 159 (by decide +kernel), List.forall_mem_cons.mpr ⟨gd_5 161 (by decide +kernel), List.forall_mem_cons.mpr ⟨gd_5 163 (by decide +kernel), List.forall_mem_cons.mpr ⟨gd_5 165 (by decide +kernel), List.forall_mem_cons.mpr ⟨gd_5 167 (by decide +kernel), List.forall_mem_cons.mpr ⟨gd_5 169 (by decide +kernel), List.forall_mem_cons.mpr ⟨gd_5 171 (by decide +kernel), List.forall_mem_cons.mpr ⟨gd_5 173 (by decide +kernel), List.forall_mem_cons.mpr ⟨gd_5 175 (by decide +kernel), List.forall_mem_cons.mpr ⟨gd_5 177 (by decide +kernel), List.forall_mem_cons.mpr ⟨gd_5 179 (by decide +kernel), List.forall_mem_cons.mpr ⟨gd_5 181 (by decide +kernel), List.forall_mem_cons.mpr ⟨gd_5 183 (by decide +kernel), List.forall_mem_cons.mpr ⟨gd_5 185 (by decide +kernel), List.forall_mem_cons.mpr ⟨gd_5 187 (by decide +kernel), List.forall_mem_cons.mpr ⟨gd_5 189 (by decide +kernel), List.forall_mem_cons.mpr ⟨gd_5 191 (by decide +kernel), List.forall_mem_cons.mpr ⟨gd_5 193 (by decide +kernel), List.forall_mem_cons.mpr ⟨gd_5 195 (by decide +kernel), List.forall_mem_cons.mpr ⟨gd_5 197 (by decide +kernel), List.forall_mem_cons.mpr ⟨gd_5 199 (by decide +kernel), fun _ h => absurd h List.not_mem_nil⟩⟩⟩⟩⟩⟩⟩⟩⟩⟩⟩⟩⟩⟩⟩⟩⟩⟩⟩⟩⟩⟩⟩⟩⟩⟩⟩⟩⟩⟩⟩⟩⟩⟩⟩⟩⟩⟩⟩⟩⟩⟩⟩⟩⟩⟩⟩⟩⟩
set_option maxRecDepth 100000 in
theorem fw_X1_11 : FW RX1 11 1 0 := ⟨RX1, TX1, 4, rfl, by decide, gd_1 33 ⟨rfl, rfl⟩, lay_X1⟩
set_option maxRecDepth 100000 in
theorem fw_X1_26 : FW RX1 26 1 1 := ⟨RX1, TX1, 4, rfl, by decide, gd_1 34 ⟨rfl, rfl⟩, lay_X1⟩
set_option maxRecDepth 100000 in
theorem pw_X1_26 : PW RX1 26 1 1 := ⟨RX1, TX1, 4, tyX1, rfl, by decide, gd_1 34 ⟨rfl, rfl⟩, lay_X1, tyX1_ok, nmX1, rfl, by decide +kernel⟩
set_option maxRecDepth 100000 in
theorem fw_X1_15 : FW RX1 15 1 2 := ⟨RX1, TX1, 4, rfl, by decide, gd_1 35 ⟨rfl, rfl⟩, lay_X1⟩
set_option maxRecDepth 100000 in
theorem pw_X1_15 : PW RX1 15 1 2 := ⟨RX1, TX1, 4, tyX1, rfl, by decide, gd_1 35 ⟨rfl, rfl⟩, lay_X1, tyX1_ok, nmX1, rfl, by decide +kernel⟩
set_option maxRecDepth 100000 in
theorem fw_X1_19 : FW RX1 19 1 3 := ⟨RX1, TX1, 4, rfl, by decide, gd_1 36 ⟨rfl, rfl⟩, lay_X1⟩
set_option maxRecDepth 100000 in
theorem pw_X1_19 : PW RX1 19 1 3 := ⟨RX1, TX1, 4, tyX1, rfl, by decide, gd_1 36 ⟨rfl, rfl⟩, lay_X1, tyX1_ok, nmX1, rfl, by decide +kernel⟩
set_option maxRecDepth 100000 in
theorem fw_X8_33 : FW RX8 33 8 0 := ⟨RX8, TX8, 16, rfl, by decide, gd_1 53 ⟨rfl, rfl⟩, lay_X8⟩
set_option maxRecDepth 100000 in
theorem fw_X8_9 : FW RX8 9 8 1 := ⟨RX8, TX8, 16, rfl, by decide, gd_1 54 ⟨rfl, rfl⟩, lay_X8⟩
set_option maxRecDepth 100000 in
theorem fw_X8_15 : FW RX8 15 8 2 := ⟨RX8, TX8, 16, rfl, by decide, gd_1 55 ⟨rfl, rfl⟩, lay_X8⟩
set_option maxRecDepth 100000 in
theorem fw_X8_37 : FW RX8 37 8 3 := ⟨RX8, TX8, 16, rfl, by decide, gd_1 56 ⟨rfl, rfl⟩, lay_X8⟩
set_option maxRecDepth 100000 in
theorem pw_X8_37 : PW RX8 37 8 3 := ⟨RX8, TX8, 16, tyX8, rfl, by decide, gd_1 56 ⟨rfl, rfl⟩, lay_X8, tyX8_ok, nmX8, rfl, by decide +kernel⟩
set_option maxRecDepth 100000 in
theorem fw_X8_18 : FW RX8 18 8 4 := ⟨RX8, TX8, 16, rfl, by decide, gd_1 57 ⟨rfl, rfl⟩, lay_X8⟩
set_option maxRecDepth 100000 in
theorem fw_X8_21 : FW RX8 21 8 5 := ⟨RX8, TX8, 16, rfl, by decide, gd_1 58 ⟨rfl, rfl⟩, lay_X8⟩
set_option maxRecDepth 100000 in
theorem fw_X8_24 : FW RX8 24 8 6 := ⟨RX8, TX8, 16, rfl, by decide, gd_1 59 ⟨rfl, rfl⟩, lay_X8⟩
set_option maxRecDepth 100000 in
theorem fw_X8_27 : FW RX8 27 8 7 := ⟨RX8, TX8, 16, rfl, by decide, gd_1 60 ⟨rfl, rfl⟩, lay_X8⟩
set_option maxRecDepth 100000 in
theorem fw_X8_41 : FW RX8 41 8 8 := ⟨RX8, TX8, 16, rfl, by decide, gd_1 61 ⟨rfl, rfl⟩, lay_X8⟩
set_option maxRecDepth 100000 in
theorem pw_X8_41 : PW RX8 41 8 8 := ⟨RX8, TX8, 16, tyX8, rfl, by decide, gd_1 61 ⟨rfl, rfl⟩, lay_X8, tyX8_ok, nmX8, rfl, by decide +kernel⟩
set_option maxRecDepth 100000 in
theorem fw_X8_30 : FW RX8 30 8 9 := ⟨RX8, TX8, 16, rfl, by decide, gd_1 62 ⟨rfl, rfl⟩, lay_X8⟩
set_option maxRecDepth 100000 in
theorem fw_X8_72 : FW RX8 72 8 10 := ⟨RX8, TX8, 16, rfl, by decide, gd_1 63 ⟨rfl, rfl⟩, lay_X8⟩
set_option maxRecDepth 100000 in
theorem pw_X8_72 : PW RX8 72 8 10 := ⟨RX8, TX8, 16, tyX8, rfl, by decide, gd_1 63 ⟨rfl, rfl⟩, lay_X8, tyX8_ok, nmX8, rfl, by decide +kernel⟩
set_option maxRecDepth 100000 in
theorem fw_X8_75 : FW RX8 75 8 11 := ⟨RX8, TX8, 16, rfl, by decide, gd_1 64 ⟨rfl, rfl⟩, lay_X8⟩
set_option maxRecDepth 100000 in
theorem pw_X8_75 : PW RX8 75 8 11 := ⟨RX8, TX8, 16, tyX8, rfl, by decide, gd_1 64 ⟨rfl, rfl⟩, lay_X8, tyX8_ok, nmX8, rfl, by decide +kernel⟩
set_option maxRecDepth 100000 in
theorem fw_X8_61 : FW RX8 61 8 12 := ⟨RX8, TX8, 16, rfl, by decide, gd_1 65 ⟨rfl, rfl⟩, lay_X8⟩
set_option maxRecDepth 100000 in
theorem pw_X8_61 : PW RX8 61 8 12 := ⟨RX8, TX8, 16, tyX8, rfl, by decide, gd_1 65 ⟨rfl, rfl⟩, lay_X8, tyX8_ok, nmX8, rfl, by decide +kernel⟩
set_option maxRecDepth 100000 in
theorem fw_X8_69 : FW RX8 69 8 13 := ⟨RX8, TX8, 16, rfl, by decide, gd_1 66 ⟨rfl, rfl⟩, lay_X8⟩
set_option maxRecDepth 100000 in
theorem pw_X8_69 : PW RX8 69 8 13 := ⟨RX8, TX8, 16, tyX8, rfl, by decide, gd_1 66 ⟨rfl, rfl⟩, lay_X8, tyX8_ok, nmX8, rfl, by decide +kernel⟩
set_option maxRecDepth 100000 in
theorem fw_X8_78 : FW RX8 78 8 14 := ⟨RX8, TX8, 16, rfl, by decide, gd_1 67 ⟨rfl, rfl⟩, lay_X8⟩
set_option maxRecDepth 100000 in
theorem pw_X8_78 : PW RX8 78 8 14 := ⟨RX8, TX8, 16, tyX8, rfl, by decide, gd_1 67 ⟨rfl, rfl⟩, lay_X8, tyX8_ok, nmX8, rfl, by decide +kernel⟩
set_option maxRecDepth 100000 in
theorem fw_X8_81 : FW RX8 81 8 15 := ⟨RX8, TX8, 16, rfl, by decide, gd_1 68 ⟨rfl, rfl⟩, lay_X8⟩
set_option maxRecDepth 100000 in
theorem pw_X8_81 : PW RX8 81 8 15 := ⟨RX8, TX8, 16, tyX8, rfl, by decide, gd_1 68 ⟨rfl, rfl⟩, lay_X8, tyX8_ok, nmX8, rfl, by decide +kernel⟩
set_option maxRecDepth 100000 in
theorem fw_X2_9 : FW RX2 9 2 0 := ⟨RX2, TX2, 5, rfl, by decide, gd_1 108 ⟨rfl, rfl⟩, lay_X2⟩
set_option maxRecDepth 100000 in
theorem fw_X2_15 : FW RX2 15 2 1 := ⟨RX2, TX2, 5, rfl, by decide, gd_1 109 ⟨rfl, rfl⟩, lay_X2⟩
set_option maxRecDepth 100000 in
theorem fw_X2_18 : FW RX2 18 2 2 := ⟨RX2, TX2, 5, rfl, by decide, gd_1 110 ⟨rfl, rfl⟩, lay_X2⟩
set_option maxRecDepth 100000 in
theorem fw_X2_21 : FW RX2 21 2 3 := ⟨RX2, TX2, 5, rfl, by decide, gd_1 111 ⟨rfl, rfl⟩, lay_X2⟩
set_option maxRecDepth 100000 in
theorem fw_X2_25 : FW RX2 25 2 4 := ⟨RX2, TX2, 5, rfl, by decide, gd_1 112 ⟨rfl, rfl⟩, lay_X2⟩
set_option maxRecDepth 100000 in
theorem pw_X2_25 : PW RX2 25 2 4 := ⟨RX2, TX2, 5, tyX2, rfl, by decide, gd_1 112 ⟨rfl, rfl⟩, lay_X2, tyX2_ok, nmX2, rfl, by decide +kernel⟩
set_option maxRecDepth 100000 in
theorem fw_X4_26 : FW RX4 26 4 0 := ⟨RX4, TX4, 7, rfl, by decide, gd_1 131 ⟨rfl, rfl⟩, lay_X4⟩
set_option maxRecDepth 100000 in
theorem fw_X4_30 : FW RX4 30 4 1 := ⟨RX4, TX4, 7, rfl, by decide, gd_1 132 ⟨rfl, rfl⟩, lay_X4⟩
set_option maxRecDepth 100000 in
theorem fw_X4_11 : FW RX4 11 4 2 := ⟨RX4, TX4, 7, rfl, by decide, gd_1 133 ⟨rfl, rfl⟩, lay_X4⟩
set_option maxRecDepth 100000 in
theorem fw_X4_15 : FW RX4 15 4 3 := ⟨RX4, TX4, 7, rfl, by decide, gd_1 134 ⟨rfl, rfl⟩, lay_X4⟩
set_option maxRecDepth 100000 in
theorem fw_X4_18 : FW RX4 18 4 4 := ⟨RX4, TX4, 7, rfl, by decide, gd_1 135 ⟨rfl, rfl⟩, lay_X4⟩
set_option maxRecDepth 100000 in
theorem fw_X4_23 : FW RX4 23 4 5 := ⟨RX4, TX4, 7, rfl, by decide, gd_1 136 ⟨rfl, rfl⟩, lay_X4⟩
set_option maxRecDepth 100000 in
theorem fw_X4_34 : FW RX4 34 4 6 := ⟨RX4, TX4, 7, rfl, by decide, gd_1 137 ⟨rfl, rfl⟩, lay_X4⟩
set_option maxRecDepth 100000 in
theorem pw_X4_34 : PW RX4 34 4 6 := ⟨RX4, TX4, 7, tyX4, rfl, by decide, gd_1 137 ⟨rfl, rfl⟩, lay_X4, tyX4_ok, nmX4, rfl, by decide +kernel⟩
set_option maxRecDepth 100000 in
theorem fw_X5_9 : FW RX5 9 5 0 := ⟨RX5, TX5, 5, rfl, by decide, gd_1 159 ⟨rfl, rfl⟩, lay_X5⟩
set_option maxRecDepth 100000 in
theorem fw_X5_15 : FW RX5 15 5 1 := ⟨RX5, TX5, 5, rfl, by decide, gd_1 160 ⟨rfl, rfl⟩, lay_X5⟩
set_option maxRecDepth 100000 in
theorem fw_X5_18 : FW RX5 18 5 2 := ⟨RX5, TX5, 5, rfl, by decide, gd_1 161 ⟨rfl, rfl⟩, lay_X5⟩
set_option maxRecDepth 100000 in
theorem fw_X5_21 : FW RX5 21 5 3 := ⟨RX5, TX5, 5, rfl, by decide, gd_1 162 ⟨rfl, rfl⟩, lay_X5⟩
set_option maxRecDepth 100000 in
theorem pw_X5_21 : PW RX5 21 5 3 := ⟨RX5, TX5, 5, tyX5, rfl, by decide, gd_1 162 ⟨rfl, rfl⟩, lay_X5, tyX5_ok, nmX5, rfl, by decide +kernel⟩
set_option maxRecDepth 100000 in
theorem fw_X5_33 : FW RX5 33 5 4 := ⟨RX5, TX5, 5, rfl, by decide, gd_1 163 ⟨rfl, rfl⟩, lay_X5⟩
set_option maxRecDepth 100000 in
theorem pw_X5_33 : PW RX5 33 5 4 := ⟨RX5, TX5, 5, tyX5, rfl, by decide, gd_1 163 ⟨rfl, rfl⟩, lay_X5, tyX5_ok, nmX5, rfl, by decide +kernel⟩
set_option maxRecDepth 100000 in
theorem fw_X9_37 : FW RX9 37 9 0 := ⟨RX9, TX9, 11, rfl, by decide, gd_1 184 ⟨rfl, rfl⟩, lay_X9⟩
set_option maxRecDepth 100000 in
theorem fw_X9_41 : FW RX9 41 9 1 := ⟨RX9, TX9, 11, rfl, by decide, gd_1 185 ⟨rfl, rfl⟩, lay_X9⟩
set_option maxRecDepth 100000 in
theorem fw_X9_11 : FW RX9 11 9 2 := ⟨RX9, TX9, 11, rfl, by decide, gd_1 186 ⟨rfl, rfl⟩, lay_X9⟩
set_option maxRecDepth 100000 in
theorem fw_X9_15 : FW RX9 15 9 3 := ⟨RX9, TX9, 11, rfl, by decide, gd_1 187 ⟨rfl, rfl⟩, lay_X9⟩
set_option maxRecDepth 100000 in
theorem fw_X9_18 : FW RX9 18 9 4 := ⟨RX9, TX9, 11, rfl, by decide, gd_1 188 ⟨rfl, rfl⟩, lay_X9⟩
set_option maxRecDepth 100000 in
theorem fw_X9_21 : FW RX9 21 9 5 := ⟨RX9, TX9, 11, rfl, by decide, gd_1 189 ⟨rfl, rfl⟩, lay_X9⟩
set_option maxRecDepth 100000 in
theorem fw_X9_24 : FW RX9 24 9 6 := ⟨RX9, TX9, 11, rfl, by decide, gd_1 190 ⟨rfl, rfl⟩, lay_X9⟩
set_option maxRecDepth 100000 in
theorem fw_X9_27 : FW RX9 27 9 7 := ⟨RX9, TX9, 11, rfl, by decide, gd_1 191 ⟨rfl, rfl⟩, lay_X9⟩
set_option maxRecDepth 100000 in
theorem fw_X9_30 : FW RX9 30 9 8 := ⟨RX9, TX9, 11, rfl, by decide, gd_1 192 ⟨rfl, rfl⟩, lay_X9⟩
set_option maxRecDepth 100000 in
theorem fw_X9_34 : FW RX9 34 9 9 := ⟨RX9, TX9, 11, rfl, by decide, gd_1 193 ⟨rfl, rfl⟩, lay_X9⟩
set_option maxRecDepth 100000 in
theorem fw_X9_51 : FW RX9 51 9 10 := ⟨RX9, TX9, 11, rfl, by decide, gd_1 194 ⟨rfl, rfl⟩, lay_X9⟩
set_option maxRecDepth 100000 in
theorem pw_X9_51 : PW RX9 51 9 10 := ⟨RX9, TX9, 11, tyX9, rfl, by decide, gd_1 194 ⟨rfl, rfl⟩, lay_X9, tyX9_ok, nmX9, rfl, by decide +kernel⟩
set_option maxRecDepth 100000 in
theorem fw_X7_11 : FW RX7 11 7 0 := ⟨RX7, TX7, 5, rfl, by decide, gd_1 224 ⟨rfl, rfl⟩, lay_X7⟩
set_option maxRecDepth 100000 in
theorem fw_X7_15 : FW RX7 15 7 1 := ⟨RX7, TX7, 5, rfl, by decide, gd_1 225 ⟨rfl, rfl⟩, lay_X7⟩
set_option maxRecDepth 100000 in
theorem fw_X7_18 : FW RX7 18 7 2 := ⟨RX7, TX7, 5, rfl, by decide, gd_1 226 ⟨rfl, rfl⟩, lay_X7⟩
set_option maxRecDepth 100000 in
theorem fw_X7_21 : FW RX7 21 7 3 := ⟨RX7, TX7, 5, rfl, by decide, gd_1 227 ⟨rfl, rfl⟩, lay_X7⟩
set_option maxRecDepth 100000 in
theorem fw_X7_24 : FW RX7 24 7 4 := ⟨RX7, TX7, 5, rfl, by decide, gd_1 228 ⟨rfl, rfl⟩, lay_X7⟩
set_option maxRecDepth 100000 in
theorem pw_X7_24 : PW RX7 24 7 4 := ⟨RX7, TX7, 5, tyX7, rfl, by decide, gd_1 228 ⟨rfl, rfl⟩, lay_X7, tyX7_ok, nmX7, rfl, by decide +kernel⟩
set_option maxRecDepth 100000 in
theorem fw_X3_9 : FW RX3 9 3 0 := ⟨RX3, TX3, 3, rfl, by decide, gd_2 6 ⟨rfl, rfl⟩, lay_X3⟩
set_option maxRecDepth 100000 in
theorem fw_X3_15 : FW RX3 15 3 1 := ⟨RX3, TX3, 3, rfl, by decide, gd_2 7 ⟨rfl, rfl⟩, lay_X3⟩
set_option maxRecDepth 100000 in
theorem fw_X3_19 : FW RX3 19 3 2 := ⟨RX3, TX3, 3, rfl, by decide, gd_2 8 ⟨rfl, rfl⟩, lay_X3⟩
set_option maxRecDepth 100000 in
theorem fw_X0_22 : FW RX0 22 0 0 := ⟨RX0, TX0, 4, rfl, by decide, gd_2 22 ⟨rfl, rfl⟩, lay_X0⟩
set_option maxRecDepth 100000 in
theorem fw_X0_9 : FW RX0 9 0 1 := ⟨RX0, TX0, 4, rfl, by decide, gd_2 23 ⟨rfl, rfl⟩, lay_X0⟩
set_option maxRecDepth 100000 in
theorem fw_X0_15 : FW RX0 15 0 2 := ⟨RX0, TX0, 4, rfl, by decide, gd_2 24 ⟨rfl, rfl⟩, lay_X0⟩
set_option maxRecDepth 100000 in
theorem fw_X0_19 : FW RX0 19 0 3 := ⟨RX0, TX0, 4, rfl, by decide, gd_2 25 ⟨rfl, rfl⟩, lay_X0⟩
set_option maxRecDepth 100000 in
theorem fw_X6_22 : FW RX6 22 6 0 := ⟨RX6, TX6, 6, rfl, by decide, gd_2 44 ⟨rfl, rfl⟩, lay_X6⟩
set_option maxRecDepth 100000 in
theorem fw_X6_9 : FW RX6 9 6 1 := ⟨RX6, TX6, 6, rfl, by decide, gd_2 45 ⟨rfl, rfl⟩, lay_X6⟩
set_option maxRecDepth 100000 in
theorem fw_X6_13 : FW RX6 13 6 2 := ⟨RX6, TX6, 6, rfl, by decide, gd_2 46 ⟨rfl, rfl⟩, lay_X6⟩
set_option maxRecDepth 100000 in
theorem fw_X6_19 : FW RX6 19 6 3 := ⟨RX6, TX6, 6, rfl, by decide, gd_2 47 ⟨rfl, rfl⟩, lay_X6⟩
set_option maxRecDepth 100000 in
theorem fw_X6_26 : FW RX6 26 6 4 := ⟨RX6, TX6, 6, rfl, by decide, gd_2 48 ⟨rfl, rfl⟩, lay_X6⟩
set_option maxRecDepth 100000 in
theorem pw_X6_26 : PW RX6 26 6 4 := ⟨RX6, TX6, 6, tyX6, rfl, by decide, gd_2 48 ⟨rfl, rfl⟩, lay_X6, tyX6_ok, nmX6, rfl, by decide +kernel⟩
set_option maxRecDepth 100000 in
theorem fw_X6_30 : FW RX6 30 6 5 := ⟨RX6, TX6, 6, rfl, by decide, gd_2 49 ⟨rfl, rfl⟩, lay_X6⟩
set_option maxRecDepth 100000 in
theorem pw_X6_30 : PW RX6 30 6 5 := ⟨RX6, TX6, 6, tyX6, rfl, by decide, gd_2 49 ⟨rfl, rfl⟩, lay_X6, tyX6_ok, nmX6, rfl, by decide +kernel⟩
set_option maxRecDepth 100000 in
theorem fw_X10_9 : FW RX10 9 10 0 := ⟨RX10, TX10, 14, rfl, by decide, gd_2 63 ⟨rfl, rfl⟩, lay_X10⟩
set_option maxRecDepth 100000 in
theorem fw_X10_16 : FW RX10 16 10 1 := ⟨RX10, TX10, 14, rfl, by decide, gd_2 64 ⟨rfl, rfl⟩, lay_X10⟩
set_option maxRecDepth 100000 in
theorem fw_X10_25 : FW RX10 25 10 2 := ⟨RX10, TX10, 14, rfl, by decide, gd_2 65 ⟨rfl, rfl⟩, lay_X10⟩
set_option maxRecDepth 100000 in
theorem fw_X10_32 : FW RX10 32 10 3 := ⟨RX10, TX10, 14, rfl, by decide, gd_2 66 ⟨rfl, rfl⟩, lay_X10⟩
set_option maxRecDepth 100000 in
theorem fw_X10_41 : FW RX10 41 10 4 := ⟨RX10, TX10, 14, rfl, by decide, gd_2 67 ⟨rfl, rfl⟩, lay_X10⟩
set_option maxRecDepth 100000 in
theorem fw_X10_48 : FW RX10 48 10 5 := ⟨RX10, TX10, 14, rfl, by decide, gd_2 68 ⟨rfl, rfl⟩, lay_X10⟩
set_option maxRecDepth 100000 in
theorem fw_X10_57 : FW RX10 57 10 6 := ⟨RX10, TX10, 14, rfl, by decide, gd_2 69 ⟨rfl, rfl⟩, lay_X10⟩
set_option maxRecDepth 100000 in
theorem fw_X10_64 : FW RX10 64 10 7 := ⟨RX10, TX10, 14, rfl, by decide, gd_2 70 ⟨rfl, rfl⟩, lay_X10⟩
set_option maxRecDepth 100000 in
theorem fw_X10_73 : FW RX10 73 10 8 := ⟨RX10, TX10, 14, rfl, by decide, gd_2 71 ⟨rfl, rfl⟩, lay_X10⟩
set_option maxRecDepth 100000 in
theorem fw_X10_82 : FW RX10 82 10 9 := ⟨RX10, TX10, 14, rfl, by decide, gd_2 72 ⟨rfl, rfl⟩, lay_X10⟩
set_option maxRecDepth 100000 in
theorem fw_X10_89 : FW RX10 89 10 10 := ⟨RX10, TX10, 14, rfl, by decide, gd_2 73 ⟨rfl, rfl⟩, lay_X10⟩
set_option maxRecDepth 100000 in
theorem fw_X10_93 : FW RX10 93 10 11 := ⟨RX10, TX10, 14, rfl, by decide, gd_2 74 ⟨rfl, rfl⟩, lay_X10⟩
set_option maxRecDepth 100000 in
theorem fw_X10_295 : FW RX10 295 10 12 := ⟨RX10, TX10, 14, rfl, by decide, gd_2 75 ⟨rfl, rfl⟩, lay_X10⟩
set_option maxRecDepth 100000 in
theorem pw_X10_295 : PW RX10 295 10 12 := ⟨RX10, TX10, 14, tyX10, rfl, by decide, gd_2 75 ⟨rfl, rfl⟩, lay_X10, tyX10_ok, nmX10, rfl, by decide +kernel⟩
set_option maxRecDepth 100000 in
theorem fw_X10_189 : FW RX10 189 10 13 := ⟨RX10, TX10, 14, rfl, by decide, gd_2 76 ⟨rfl, rfl⟩, lay_X10⟩
set_option maxRecDepth 100000 in
theorem pw_X10_189 : PW RX10 189 10 13 := ⟨RX10, TX10, 14, tyX10, rfl, by decide, gd_2 76 ⟨rfl, rfl⟩, lay_X10, tyX10_ok, nmX10, rfl, by decide +kernel⟩
set_option maxRecDepth 100000 in
theorem sl_X1_29 : Cond.fieldLink RX1 29 "BenchTimes$Elements" "ABOVE" "[I" ∈ gd := gd_2 141 ⟨rfl, rfl⟩
set_option maxRecDepth 100000 in
theorem sl_J0_38 : Cond.fieldLink RJ0 38 "java/lang/String" "COMPACT_STRINGS" "Z" ∈ gd := gd_3 198 ⟨rfl, rfl⟩
set_option maxRecDepth 100000 in
theorem sl_J0_1053 : Cond.fieldLink RJ0 1053 "jdk/internal/util/Preconditions" "SIOOBE_FORMATTER" "Ljava/util/function/BiFunction;" ∈ gd := gd_3 214 ⟨rfl, rfl⟩
set_option maxRecDepth 100000 in
theorem sl_J2_44 : Cond.fieldLink RJ2 44 "java/lang/StringUTF16" "$assertionsDisabled" "Z" ∈ gd := gd_3 232 ⟨rfl, rfl⟩
set_option maxRecDepth 100000 in
theorem sl_J2_59 : Cond.fieldLink RJ2 59 "java/lang/StringUTF16" "HI_BYTE_SHIFT" "I" ∈ gd := gd_3 234 ⟨rfl, rfl⟩
set_option maxRecDepth 100000 in
theorem sl_J2_63 : Cond.fieldLink RJ2 63 "java/lang/StringUTF16" "LO_BYTE_SHIFT" "I" ∈ gd := gd_3 236 ⟨rfl, rfl⟩
set_option maxRecDepth 100000 in
theorem sl_X5_55 : Cond.fieldLink RX5 55 "BenchTimes$Rules" "GREATEST" "[I" ∈ gd := gd_4 8 ⟨rfl, rfl⟩
set_option maxRecDepth 100000 in
theorem fw_X11_127 : FW RX11 127 11 0 := ⟨RX11, TX11, 49, rfl, by decide, gd_5 54 ⟨rfl, rfl⟩, lay_X11⟩
set_option maxRecDepth 100000 in
theorem pw_X11_127 : PW RX11 127 11 0 := ⟨RX11, TX11, 49, tyX11, rfl, by decide, gd_5 54 ⟨rfl, rfl⟩, lay_X11, tyX11_ok, nmX11, rfl, by decide +kernel⟩
set_option maxRecDepth 100000 in
theorem fw_X11_7 : FW RX11 7 11 1 := ⟨RX11, TX11, 49, rfl, by decide, gd_5 55 ⟨rfl, rfl⟩, lay_X11⟩
set_option maxRecDepth 100000 in
theorem fw_X11_13 : FW RX11 13 11 2 := ⟨RX11, TX11, 49, rfl, by decide, gd_5 56 ⟨rfl, rfl⟩, lay_X11⟩
set_option maxRecDepth 100000 in
theorem pw_X11_13 : PW RX11 13 11 2 := ⟨RX11, TX11, 49, tyX11, rfl, by decide, gd_5 56 ⟨rfl, rfl⟩, lay_X11, tyX11_ok, nmX11, rfl, by decide +kernel⟩
set_option maxRecDepth 100000 in
theorem fw_X11_17 : FW RX11 17 11 3 := ⟨RX11, TX11, 49, rfl, by decide, gd_5 57 ⟨rfl, rfl⟩, lay_X11⟩
set_option maxRecDepth 100000 in
theorem pw_X11_17 : PW RX11 17 11 3 := ⟨RX11, TX11, 49, tyX11, rfl, by decide, gd_5 57 ⟨rfl, rfl⟩, lay_X11, tyX11_ok, nmX11, rfl, by decide +kernel⟩
set_option maxRecDepth 100000 in
theorem fw_X11_151 : FW RX11 151 11 4 := ⟨RX11, TX11, 49, rfl, by decide, gd_5 58 ⟨rfl, rfl⟩, lay_X11⟩
set_option maxRecDepth 100000 in
theorem pw_X11_151 : PW RX11 151 11 4 := ⟨RX11, TX11, 49, tyX11, rfl, by decide, gd_5 58 ⟨rfl, rfl⟩, lay_X11, tyX11_ok, nmX11, rfl, by decide +kernel⟩
set_option maxRecDepth 100000 in
theorem fw_X11_20 : FW RX11 20 11 5 := ⟨RX11, TX11, 49, rfl, by decide, gd_5 59 ⟨rfl, rfl⟩, lay_X11⟩
set_option maxRecDepth 100000 in
theorem fw_X11_23 : FW RX11 23 11 6 := ⟨RX11, TX11, 49, rfl, by decide, gd_5 60 ⟨rfl, rfl⟩, lay_X11⟩
set_option maxRecDepth 100000 in
theorem fw_X11_157 : FW RX11 157 11 7 := ⟨RX11, TX11, 49, rfl, by decide, gd_5 61 ⟨rfl, rfl⟩, lay_X11⟩
set_option maxRecDepth 100000 in
theorem pw_X11_157 : PW RX11 157 11 7 := ⟨RX11, TX11, 49, tyX11, rfl, by decide, gd_5 61 ⟨rfl, rfl⟩, lay_X11, tyX11_ok, nmX11, rfl, by decide +kernel⟩
set_option maxRecDepth 100000 in
theorem fw_X11_26 : FW RX11 26 11 8 := ⟨RX11, TX11, 49, rfl, by decide, gd_5 62 ⟨rfl, rfl⟩, lay_X11⟩
set_option maxRecDepth 100000 in
theorem fw_X11_29 : FW RX11 29 11 9 := ⟨RX11, TX11, 49, rfl, by decide, gd_5 63 ⟨rfl, rfl⟩, lay_X11⟩
set_option maxRecDepth 100000 in
theorem fw_X11_32 : FW RX11 32 11 10 := ⟨RX11, TX11, 49, rfl, by decide, gd_5 64 ⟨rfl, rfl⟩, lay_X11⟩
set_option maxRecDepth 100000 in
theorem fw_X11_35 : FW RX11 35 11 11 := ⟨RX11, TX11, 49, rfl, by decide, gd_5 65 ⟨rfl, rfl⟩, lay_X11⟩
set_option maxRecDepth 100000 in
theorem fw_X11_130 : FW RX11 130 11 12 := ⟨RX11, TX11, 49, rfl, by decide, gd_5 66 ⟨rfl, rfl⟩, lay_X11⟩
set_option maxRecDepth 100000 in
theorem pw_X11_130 : PW RX11 130 11 12 := ⟨RX11, TX11, 49, tyX11, rfl, by decide, gd_5 66 ⟨rfl, rfl⟩, lay_X11, tyX11_ok, nmX11, rfl, by decide +kernel⟩
set_option maxRecDepth 100000 in
theorem fw_X11_38 : FW RX11 38 11 13 := ⟨RX11, TX11, 49, rfl, by decide, gd_5 67 ⟨rfl, rfl⟩, lay_X11⟩
set_option maxRecDepth 100000 in
theorem fw_X11_41 : FW RX11 41 11 14 := ⟨RX11, TX11, 49, rfl, by decide, gd_5 68 ⟨rfl, rfl⟩, lay_X11⟩
set_option maxRecDepth 100000 in
theorem fw_X11_44 : FW RX11 44 11 15 := ⟨RX11, TX11, 49, rfl, by decide, gd_5 69 ⟨rfl, rfl⟩, lay_X11⟩
set_option maxRecDepth 100000 in
theorem fw_X11_47 : FW RX11 47 11 16 := ⟨RX11, TX11, 49, rfl, by decide, gd_5 70 ⟨rfl, rfl⟩, lay_X11⟩
set_option maxRecDepth 100000 in
theorem fw_X11_173 : FW RX11 173 11 17 := ⟨RX11, TX11, 49, rfl, by decide, gd_5 71 ⟨rfl, rfl⟩, lay_X11⟩
set_option maxRecDepth 100000 in
theorem pw_X11_173 : PW RX11 173 11 17 := ⟨RX11, TX11, 49, tyX11, rfl, by decide, gd_5 71 ⟨rfl, rfl⟩, lay_X11, tyX11_ok, nmX11, rfl, by decide +kernel⟩
set_option maxRecDepth 100000 in
theorem fw_X11_51 : FW RX11 51 11 18 := ⟨RX11, TX11, 49, rfl, by decide, gd_5 72 ⟨rfl, rfl⟩, lay_X11⟩
set_option maxRecDepth 100000 in
theorem fw_X11_54 : FW RX11 54 11 19 := ⟨RX11, TX11, 49, rfl, by decide, gd_5 73 ⟨rfl, rfl⟩, lay_X11⟩
set_option maxRecDepth 100000 in
theorem fw_X11_57 : FW RX11 57 11 20 := ⟨RX11, TX11, 49, rfl, by decide, gd_5 74 ⟨rfl, rfl⟩, lay_X11⟩
set_option maxRecDepth 100000 in
theorem fw_X11_185 : FW RX11 185 11 21 := ⟨RX11, TX11, 49, rfl, by decide, gd_5 75 ⟨rfl, rfl⟩, lay_X11⟩
set_option maxRecDepth 100000 in
theorem pw_X11_185 : PW RX11 185 11 21 := ⟨RX11, TX11, 49, tyX11, rfl, by decide, gd_5 75 ⟨rfl, rfl⟩, lay_X11, tyX11_ok, nmX11, rfl, by decide +kernel⟩
set_option maxRecDepth 100000 in
theorem fw_X11_60 : FW RX11 60 11 22 := ⟨RX11, TX11, 49, rfl, by decide, gd_5 76 ⟨rfl, rfl⟩, lay_X11⟩
set_option maxRecDepth 100000 in
theorem fw_X11_63 : FW RX11 63 11 23 := ⟨RX11, TX11, 49, rfl, by decide, gd_5 77 ⟨rfl, rfl⟩, lay_X11⟩
set_option maxRecDepth 100000 in
theorem fw_X11_198 : FW RX11 198 11 24 := ⟨RX11, TX11, 49, rfl, by decide, gd_5 78 ⟨rfl, rfl⟩, lay_X11⟩
set_option maxRecDepth 100000 in
theorem pw_X11_198 : PW RX11 198 11 24 := ⟨RX11, TX11, 49, tyX11, rfl, by decide, gd_5 78 ⟨rfl, rfl⟩, lay_X11, tyX11_ok, nmX11, rfl, by decide +kernel⟩
set_option maxRecDepth 100000 in
theorem fw_X11_221 : FW RX11 221 11 25 := ⟨RX11, TX11, 49, rfl, by decide, gd_5 79 ⟨rfl, rfl⟩, lay_X11⟩
set_option maxRecDepth 100000 in
theorem pw_X11_221 : PW RX11 221 11 25 := ⟨RX11, TX11, 49, tyX11, rfl, by decide, gd_5 79 ⟨rfl, rfl⟩, lay_X11, tyX11_ok, nmX11, rfl, by decide +kernel⟩
set_option maxRecDepth 100000 in
theorem fw_X11_66 : FW RX11 66 11 26 := ⟨RX11, TX11, 49, rfl, by decide, gd_5 80 ⟨rfl, rfl⟩, lay_X11⟩
set_option maxRecDepth 100000 in
theorem fw_X11_69 : FW RX11 69 11 27 := ⟨RX11, TX11, 49, rfl, by decide, gd_5 81 ⟨rfl, rfl⟩, lay_X11⟩
set_option maxRecDepth 100000 in
theorem fw_X11_72 : FW RX11 72 11 28 := ⟨RX11, TX11, 49, rfl, by decide, gd_5 82 ⟨rfl, rfl⟩, lay_X11⟩
set_option maxRecDepth 100000 in
theorem fw_X11_75 : FW RX11 75 11 29 := ⟨RX11, TX11, 49, rfl, by decide, gd_5 83 ⟨rfl, rfl⟩, lay_X11⟩
set_option maxRecDepth 100000 in
theorem fw_X11_78 : FW RX11 78 11 30 := ⟨RX11, TX11, 49, rfl, by decide, gd_5 84 ⟨rfl, rfl⟩, lay_X11⟩
set_option maxRecDepth 100000 in
theorem fw_X11_81 : FW RX11 81 11 31 := ⟨RX11, TX11, 49, rfl, by decide, gd_5 85 ⟨rfl, rfl⟩, lay_X11⟩
set_option maxRecDepth 100000 in
theorem fw_X11_84 : FW RX11 84 11 32 := ⟨RX11, TX11, 49, rfl, by decide, gd_5 86 ⟨rfl, rfl⟩, lay_X11⟩
set_option maxRecDepth 100000 in
theorem fw_X11_224 : FW RX11 224 11 33 := ⟨RX11, TX11, 49, rfl, by decide, gd_5 87 ⟨rfl, rfl⟩, lay_X11⟩
set_option maxRecDepth 100000 in
theorem pw_X11_224 : PW RX11 224 11 33 := ⟨RX11, TX11, 49, tyX11, rfl, by decide, gd_5 87 ⟨rfl, rfl⟩, lay_X11, tyX11_ok, nmX11, rfl, by decide +kernel⟩
set_option maxRecDepth 100000 in
theorem fw_X11_87 : FW RX11 87 11 34 := ⟨RX11, TX11, 49, rfl, by decide, gd_5 88 ⟨rfl, rfl⟩, lay_X11⟩
set_option maxRecDepth 100000 in
theorem fw_X11_90 : FW RX11 90 11 35 := ⟨RX11, TX11, 49, rfl, by decide, gd_5 89 ⟨rfl, rfl⟩, lay_X11⟩
set_option maxRecDepth 100000 in
theorem fw_X11_93 : FW RX11 93 11 36 := ⟨RX11, TX11, 49, rfl, by decide, gd_5 90 ⟨rfl, rfl⟩, lay_X11⟩
set_option maxRecDepth 100000 in
theorem fw_X11_96 : FW RX11 96 11 37 := ⟨RX11, TX11, 49, rfl, by decide, gd_5 91 ⟨rfl, rfl⟩, lay_X11⟩
set_option maxRecDepth 100000 in
theorem fw_X11_99 : FW RX11 99 11 38 := ⟨RX11, TX11, 49, rfl, by decide, gd_5 92 ⟨rfl, rfl⟩, lay_X11⟩
set_option maxRecDepth 100000 in
theorem fw_X11_245 : FW RX11 245 11 39 := ⟨RX11, TX11, 49, rfl, by decide, gd_5 93 ⟨rfl, rfl⟩, lay_X11⟩
set_option maxRecDepth 100000 in
theorem pw_X11_245 : PW RX11 245 11 39 := ⟨RX11, TX11, 49, tyX11, rfl, by decide, gd_5 93 ⟨rfl, rfl⟩, lay_X11, tyX11_ok, nmX11, rfl, by decide +kernel⟩
set_option maxRecDepth 100000 in
theorem fw_X11_102 : FW RX11 102 11 40 := ⟨RX11, TX11, 49, rfl, by decide, gd_5 94 ⟨rfl, rfl⟩, lay_X11⟩
set_option maxRecDepth 100000 in
theorem fw_X11_105 : FW RX11 105 11 41 := ⟨RX11, TX11, 49, rfl, by decide, gd_5 95 ⟨rfl, rfl⟩, lay_X11⟩
set_option maxRecDepth 100000 in
theorem fw_X11_108 : FW RX11 108 11 42 := ⟨RX11, TX11, 49, rfl, by decide, gd_5 96 ⟨rfl, rfl⟩, lay_X11⟩
set_option maxRecDepth 100000 in
theorem fw_X11_111 : FW RX11 111 11 43 := ⟨RX11, TX11, 49, rfl, by decide, gd_5 97 ⟨rfl, rfl⟩, lay_X11⟩
set_option maxRecDepth 100000 in
theorem fw_X11_201 : FW RX11 201 11 44 := ⟨RX11, TX11, 49, rfl, by decide, gd_5 98 ⟨rfl, rfl⟩, lay_X11⟩
set_option maxRecDepth 100000 in
theorem pw_X11_201 : PW RX11 201 11 44 := ⟨RX11, TX11, 49, tyX11, rfl, by decide, gd_5 98 ⟨rfl, rfl⟩, lay_X11, tyX11_ok, nmX11, rfl, by decide +kernel⟩
set_option maxRecDepth 100000 in
theorem fw_X11_114 : FW RX11 114 11 45 := ⟨RX11, TX11, 49, rfl, by decide, gd_5 99 ⟨rfl, rfl⟩, lay_X11⟩
set_option maxRecDepth 100000 in
theorem fw_X11_117 : FW RX11 117 11 46 := ⟨RX11, TX11, 49, rfl, by decide, gd_5 100 ⟨rfl, rfl⟩, lay_X11⟩
set_option maxRecDepth 100000 in
theorem fw_X11_120 : FW RX11 120 11 47 := ⟨RX11, TX11, 49, rfl, by decide, gd_5 101 ⟨rfl, rfl⟩, lay_X11⟩
set_option maxRecDepth 100000 in
theorem fw_X11_123 : FW RX11 123 11 48 := ⟨RX11, TX11, 49, rfl, by decide, gd_5 102 ⟨rfl, rfl⟩, lay_X11⟩
set_option maxRecDepth 100000 in
theorem sl_X11_204 : Cond.fieldLink RX11 204 "BenchTimesModel" "WORDS" "[I" ∈ gd := gd_6 104 ⟨rfl, rfl⟩
set_option maxRecDepth 100000 in
theorem sl_J0_9 : Cond.fieldLink RJ0 9 "java/lang/String" "value" "[B" ∈ gd := gd_6 198 ⟨rfl, rfl⟩
set_option maxRecDepth 100000 in
theorem sl_J0_15 : Cond.fieldLink RJ0 15 "java/lang/String" "coder" "B" ∈ gd := gd_6 199 ⟨rfl, rfl⟩
set_option maxRecDepth 100000 in
theorem kc_X10_310 : Cond.constant RX10 310 (-1000000000) ∈ gd := gd_2 120 ⟨rfl, rfl⟩
set_option maxRecDepth 100000 in
theorem kc_X10_240 : Cond.constant RX10 240 (999999) ∈ gd := gd_4 30 ⟨rfl, rfl⟩
set_option maxRecDepth 100000 in
theorem kc_X0_54 : Cond.constantLong RX0 54 (100) ∈ gd := gd_4 171 ⟨rfl, rfl⟩
set_option maxRecDepth 100000 in
theorem kc_X11_126 : Cond.constant RX11 126 (-1000000000) ∈ gd := gd_5 213 ⟨rfl, rfl⟩
set_option maxRecDepth 100000 in
theorem kc_X11_220 : Cond.constant RX11 220 (999999) ∈ gd := gd_6 121 ⟨rfl, rfl⟩
set_option maxRecDepth 100000 in
theorem kc_X11_233 : Cond.constantLong RX11 233 (100) ∈ gd := gd_6 162 ⟨rfl, rfl⟩
set_option maxRecDepth 100000 in
theorem ml_X10_22 : Cond.methodLink RX10 22 yX8_init ∈ gd := gd_1 49 ⟨rfl, rfl⟩
set_option maxRecDepth 100000 in
theorem ml_X10_38 : Cond.methodLink RX10 38 yX4_init ∈ gd := gd_1 127 ⟨rfl, rfl⟩
set_option maxRecDepth 100000 in
theorem ml_X10_54 : Cond.methodLink RX10 54 yX9_init ∈ gd := gd_1 177 ⟨rfl, rfl⟩
set_option maxRecDepth 100000 in
theorem ml_X9_45 : Cond.methodLink RX9 45 yJ7_fill_53178 ∈ gd := gd_1 181 ⟨rfl, rfl⟩
set_option maxRecDepth 100000 in
theorem ml_X10_70 : Cond.methodLink RX10 70 yX3_init ∈ gd := gd_2 2 ⟨rfl, rfl⟩
set_option maxRecDepth 100000 in
theorem ml_X10_79 : Cond.methodLink RX10 79 yX0_init ∈ gd := gd_2 18 ⟨rfl, rfl⟩
set_option maxRecDepth 100000 in
theorem ml_X10_88 : Cond.methodLink RX10 88 yX6_init ∈ gd := gd_2 38 ⟨rfl, rfl⟩
set_option maxRecDepth 100000 in
theorem ml_X10_96 : Cond.methodLink RX10 96 yX1_isKind ∈ gd := gd_2 110 ⟨rfl, rfl⟩
set_option maxRecDepth 100000 in
theorem ml_X10_100 : Cond.methodLink RX10 100 yX10_finding ∈ gd := gd_2 116 ⟨rfl, rfl⟩
set_option maxRecDepth 100000 in
theorem ml_X10_104 : Cond.methodLink RX10 104 yX1_isFull ∈ gd := gd_2 121 ⟨rfl, rfl⟩
set_option maxRecDepth 100000 in
theorem ml_X10_108 : Cond.methodLink RX10 108 yX1_add ∈ gd := gd_2 125 ⟨rfl, rfl⟩
set_option maxRecDepth 100000 in
theorem ml_X10_111 : Cond.methodLink RX10 111 yX1_has ∈ gd := gd_2 133 ⟨rfl, rfl⟩
set_option maxRecDepth 100000 in
theorem ml_X10_114 : Cond.methodLink RX10 114 yX1_isUnder ∈ gd := gd_2 137 ⟨rfl, rfl⟩
set_option maxRecDepth 100000 in
theorem ml_X10_118 : Cond.methodLink RX10 118 yX1_allowanceOf ∈ gd := gd_2 143 ⟨rfl, rfl⟩
set_option maxRecDepth 100000 in
theorem ml_X10_121 : Cond.methodLink RX10 121 yX10_isWithin ∈ gd := gd_2 151 ⟨rfl, rfl⟩
set_option maxRecDepth 100000 in
theorem ml_X10_125 : Cond.methodLink RX10 125 yX1_setAllowances ∈ gd := gd_2 152 ⟨rfl, rfl⟩
set_option maxRecDepth 100000 in
theorem ml_X10_129 : Cond.methodLink RX10 129 yX10_isRater ∈ gd := gd_2 160 ⟨rfl, rfl⟩
set_option maxRecDepth 100000 in
theorem ml_X10_132 : Cond.methodLink RX10 132 yX10_isPace ∈ gd := gd_2 163 ⟨rfl, rfl⟩
set_option maxRecDepth 100000 in
theorem ml_X10_135 : Cond.methodLink RX10 135 yX8_isFullOfFilms ∈ gd := gd_2 166 ⟨rfl, rfl⟩
set_option maxRecDepth 100000 in
theorem ml_X10_138 : Cond.methodLink RX10 138 yX8_addFilm ∈ gd := gd_2 170 ⟨rfl, rfl⟩
set_option maxRecDepth 100000 in
theorem ml_X10_142 : Cond.methodLink RX10 142 yX8_habitOf ∈ gd := gd_2 178 ⟨rfl, rfl⟩
set_option maxRecDepth 100000 in
theorem ml_X10_145 : Cond.methodLink RX10 145 yX8_isFullOfCycles ∈ gd := gd_2 186 ⟨rfl, rfl⟩
set_option maxRecDepth 100000 in
theorem ml_X10_148 : Cond.methodLink RX10 148 yX8_addCycle ∈ gd := gd_2 190 ⟨rfl, rfl⟩
set_option maxRecDepth 100000 in
theorem ml_X10_152 : Cond.methodLink RX10 152 yX8_cycleMany ∈ gd := gd_2 198 ⟨rfl, rfl⟩
set_option maxRecDepth 100000 in
theorem ml_X10_156 : Cond.methodLink RX10 156 yX8_normalOf ∈ gd := gd_2 202 ⟨rfl, rfl⟩
set_option maxRecDepth 100000 in
theorem ml_X8_44 : Cond.methodLink RX8 44 yX8_habitOf ∈ gd := gd_2 206 ⟨rfl, rfl⟩
set_option maxRecDepth 100000 in
theorem ml_X8_48 : Cond.methodLink RX8 48 yJ9_max_7cf53 ∈ gd := gd_2 207 ⟨rfl, rfl⟩
set_option maxRecDepth 100000 in
theorem ml_X10_159 : Cond.methodLink RX10 159 yX1_kindOf ∈ gd := gd_2 214 ⟨rfl, rfl⟩
set_option maxRecDepth 100000 in
theorem ml_X10_162 : Cond.methodLink RX10 162 yX8_study ∈ gd := gd_2 218 ⟨rfl, rfl⟩
set_option maxRecDepth 100000 in
theorem ml_X8_54 : Cond.methodLink RX8 54 yX8_gatherNormals ∈ gd := gd_2 222 ⟨rfl, rfl⟩
set_option maxRecDepth 100000 in
theorem ml_X8_84 : Cond.methodLink RX8 84 yX8_normalOf ∈ gd := gd_2 226 ⟨rfl, rfl⟩
set_option maxRecDepth 100000 in
theorem ml_X8_87 : Cond.methodLink RX8 87 yX8_putInOrder ∈ gd := gd_2 227 ⟨rfl, rfl⟩
set_option maxRecDepth 100000 in
theorem ml_X8_58 : Cond.methodLink RX8 58 yX8_keepNormals ∈ gd := gd_2 231 ⟨rfl, rfl⟩
set_option maxRecDepth 100000 in
theorem ml_X8_90 : Cond.methodLink RX8 90 yJ9_abs_0f7a4 ∈ gd := gd_2 235 ⟨rfl, rfl⟩
set_option maxRecDepth 100000 in
theorem ml_X8_64 : Cond.methodLink RX8 64 yX1_allowanceOf ∈ gd := gd_2 238 ⟨rfl, rfl⟩
set_option maxRecDepth 100000 in
theorem ml_X10_166 : Cond.methodLink RX10 166 yX8_studied ∈ gd := gd_2 239 ⟨rfl, rfl⟩
set_option maxRecDepth 100000 in
theorem ml_X10_169 : Cond.methodLink RX10 169 yX2_isFull ∈ gd := gd_3 7 ⟨rfl, rfl⟩
set_option maxRecDepth 100000 in
theorem ml_X10_170 : Cond.methodLink RX10 170 yX2_add ∈ gd := gd_3 11 ⟨rfl, rfl⟩
set_option maxRecDepth 100000 in
theorem ml_X10_172 : Cond.methodLink RX10 172 yX2_has ∈ gd := gd_3 19 ⟨rfl, rfl⟩
set_option maxRecDepth 100000 in
theorem ml_X10_173 : Cond.methodLink RX10 173 yX2_placeOf ∈ gd := gd_3 24 ⟨rfl, rfl⟩
set_option maxRecDepth 100000 in
theorem ml_X10_176 : Cond.methodLink RX10 176 yX4_latestOf ∈ gd := gd_3 28 ⟨rfl, rfl⟩
set_option maxRecDepth 100000 in
theorem ml_X10_179 : Cond.methodLink RX10 179 yX2_isFullOfParts ∈ gd := gd_3 32 ⟨rfl, rfl⟩
set_option maxRecDepth 100000 in
theorem ml_X10_182 : Cond.methodLink RX10 182 yX2_addPart ∈ gd := gd_3 36 ⟨rfl, rfl⟩
set_option maxRecDepth 100000 in
theorem ml_X10_186 : Cond.methodLink RX10 186 yX2_partMany ∈ gd := gd_3 44 ⟨rfl, rfl⟩
set_option maxRecDepth 100000 in
theorem ml_X10_193 : Cond.methodLink RX10 193 yX10_newRate ∈ gd := gd_3 48 ⟨rfl, rfl⟩
set_option maxRecDepth 100000 in
theorem ml_X10_311 : Cond.methodLink RX10 311 yX4_canMake ∈ gd := gd_3 52 ⟨rfl, rfl⟩
set_option maxRecDepth 100000 in
theorem ml_X4_38 : Cond.methodLink RX4 38 yX2_partMany ∈ gd := gd_3 56 ⟨rfl, rfl⟩
set_option maxRecDepth 100000 in
theorem ml_X4_42 : Cond.methodLink RX4 42 yX2_isMarked ∈ gd := gd_3 57 ⟨rfl, rfl⟩
set_option maxRecDepth 100000 in
theorem ml_X4_53 : Cond.methodLink RX4 53 yX2_elementAt ∈ gd := gd_3 61 ⟨rfl, rfl⟩
set_option maxRecDepth 100000 in
theorem ml_X4_56 : Cond.methodLink RX4 56 yX8_isTimed ∈ gd := gd_3 65 ⟨rfl, rfl⟩
set_option maxRecDepth 100000 in
theorem ml_X10_314 : Cond.methodLink RX10 314 yX4_isFull ∈ gd := gd_3 69 ⟨rfl, rfl⟩
set_option maxRecDepth 100000 in
theorem ml_X10_315 : Cond.methodLink RX10 315 yX4_make ∈ gd := gd_3 73 ⟨rfl, rfl⟩
set_option maxRecDepth 100000 in
theorem ml_X4_62 : Cond.methodLink RX4 62 yX4_latestOf ∈ gd := gd_3 77 ⟨rfl, rfl⟩
set_option maxRecDepth 100000 in
theorem ml_X4_65 : Cond.methodLink RX4 65 yX8_study ∈ gd := gd_3 78 ⟨rfl, rfl⟩
set_option maxRecDepth 100000 in
theorem ml_X4_69 : Cond.methodLink RX4 69 yX8_studied ∈ gd := gd_3 79 ⟨rfl, rfl⟩
set_option maxRecDepth 100000 in
theorem ml_X4_46 : Cond.methodLink RX4 46 yX4_worthOf ∈ gd := gd_3 80 ⟨rfl, rfl⟩
set_option maxRecDepth 100000 in
theorem ml_X4_50 : Cond.methodLink RX4 50 yX2_oftenAt ∈ gd := gd_3 84 ⟨rfl, rfl⟩
set_option maxRecDepth 100000 in
theorem ml_X4_72 : Cond.methodLink RX4 72 yX2_clearMarks ∈ gd := gd_3 88 ⟨rfl, rfl⟩
set_option maxRecDepth 100000 in
theorem ml_X10_196 : Cond.methodLink RX10 196 yX2_many ∈ gd := gd_3 96 ⟨rfl, rfl⟩
set_option maxRecDepth 100000 in
theorem ml_X10_199 : Cond.methodLink RX10 199 yX2_mark ∈ gd := gd_3 100 ⟨rfl, rfl⟩
set_option maxRecDepth 100000 in
theorem ml_X10_202 : Cond.methodLink RX10 202 yX5_valueOf ∈ gd := gd_3 108 ⟨rfl, rfl⟩
set_option maxRecDepth 100000 in
theorem ml_X10_205 : Cond.methodLink RX10 205 yX4_mayMove ∈ gd := gd_3 112 ⟨rfl, rfl⟩
set_option maxRecDepth 100000 in
theorem ml_X10_208 : Cond.methodLink RX10 208 yX4_beginOf ∈ gd := gd_3 116 ⟨rfl, rfl⟩
set_option maxRecDepth 100000 in
theorem ml_X10_211 : Cond.methodLink RX10 211 yJ9_max_7cf53 ∈ gd := gd_3 120 ⟨rfl, rfl⟩
set_option maxRecDepth 100000 in
theorem ml_X10_216 : Cond.methodLink RX10 216 yX10_isWeek ∈ gd := gd_3 125 ⟨rfl, rfl⟩
set_option maxRecDepth 100000 in
theorem ml_X10_219 : Cond.methodLink RX10 219 yX4_inForce ∈ gd := gd_3 128 ⟨rfl, rfl⟩
set_option maxRecDepth 100000 in
theorem ml_X10_222 : Cond.methodLink RX10 222 yX4_sumOf ∈ gd := gd_3 132 ⟨rfl, rfl⟩
set_option maxRecDepth 100000 in
theorem ml_X10_225 : Cond.methodLink RX10 225 yX4_worthOf ∈ gd := gd_3 140 ⟨rfl, rfl⟩
set_option maxRecDepth 100000 in
theorem ml_X10_228 : Cond.methodLink RX10 228 yX5_isFullOfBytes ∈ gd := gd_3 149 ⟨rfl, rfl⟩
set_option maxRecDepth 100000 in
theorem ml_X10_231 : Cond.methodLink RX10 231 yX5_addByte ∈ gd := gd_3 153 ⟨rfl, rfl⟩
set_option maxRecDepth 100000 in
theorem ml_X10_234 : Cond.methodLink RX10 234 yX5_takeTape ∈ gd := gd_3 161 ⟨rfl, rfl⟩
set_option maxRecDepth 100000 in
theorem ml_X5_25 : Cond.methodLink RX5 25 yX5_readClauses ∈ gd := gd_3 165 ⟨rfl, rfl⟩
set_option maxRecDepth 100000 in
theorem ml_X5_36 : Cond.methodLink RX5 36 yJ7_fill_53178 ∈ gd := gd_3 169 ⟨rfl, rfl⟩
set_option maxRecDepth 100000 in
theorem ml_X5_42 : Cond.methodLink RX5 42 yX5_readClause ∈ gd := gd_3 170 ⟨rfl, rfl⟩
set_option maxRecDepth 100000 in
theorem ml_X5_45 : Cond.methodLink RX5 45 yX5_readWord ∈ gd := gd_3 174 ⟨rfl, rfl⟩
set_option maxRecDepth 100000 in
theorem ml_X5_58 : Cond.methodLink RX5 58 yX5_wordOf ∈ gd := gd_3 178 ⟨rfl, rfl⟩
set_option maxRecDepth 100000 in
theorem ml_X5_62 : Cond.methodLink RX5 62 yX5_alikeWith ∈ gd := gd_3 186 ⟨rfl, rfl⟩
set_option maxRecDepth 100000 in
theorem ml_X5_66 : Cond.methodLink RX5 66 yJ0_length_8abf5 ∈ gd := gd_3 190 ⟨rfl, rfl⟩
set_option maxRecDepth 100000 in
theorem ml_J0_335 : Cond.methodLink RJ0 335 yJ0_coder_7d493 ∈ gd := gd_3 194 ⟨rfl, rfl⟩
set_option maxRecDepth 100000 in
theorem ml_X5_76 : Cond.methodLink RX5 76 yJ0_charAt_5068e ∈ gd := gd_3 200 ⟨rfl, rfl⟩
set_option maxRecDepth 100000 in
theorem ml_J0_492 : Cond.methodLink RJ0 492 yJ0_isLatin1_aae02 ∈ gd := gd_3 204 ⟨rfl, rfl⟩
set_option maxRecDepth 100000 in
theorem ml_J0_495 : Cond.methodLink RJ0 495 yJ1_charAt_3b067 ∈ gd := gd_3 208 ⟨rfl, rfl⟩
set_option maxRecDepth 100000 in
theorem ml_J1_9 : Cond.methodLink RJ1 9 yJ0_checkIndex_df160 ∈ gd := gd_3 211 ⟨rfl, rfl⟩
set_option maxRecDepth 100000 in
theorem ml_J0_1059 : Cond.methodLink RJ0 1059 yJ3_checkIndex_8e157 ∈ gd := gd_3 216 ⟨rfl, rfl⟩
set_option maxRecDepth 100000 in
theorem ml_J0_498 : Cond.methodLink RJ0 498 yJ2_charAt_3b067 ∈ gd := gd_3 219 ⟨rfl, rfl⟩
set_option maxRecDepth 100000 in
theorem ml_J2_67 : Cond.methodLink RJ2 67 yJ2_checkIndex_2214a ∈ gd := gd_3 222 ⟨rfl, rfl⟩
set_option maxRecDepth 100000 in
theorem ml_J2_48 : Cond.methodLink RJ2 48 yJ2_length_9d52b ∈ gd := gd_3 225 ⟨rfl, rfl⟩
set_option maxRecDepth 100000 in
theorem ml_J2_414 : Cond.methodLink RJ2 414 yJ0_checkIndex_df160 ∈ gd := gd_3 228 ⟨rfl, rfl⟩
set_option maxRecDepth 100000 in
theorem ml_J2_71 : Cond.methodLink RJ2 71 yJ2_getChar_3b067 ∈ gd := gd_3 229 ⟨rfl, rfl⟩
set_option maxRecDepth 100000 in
theorem ml_X5_70 : Cond.methodLink RX5 70 yJ9_max_7cf53 ∈ gd := gd_3 238 ⟨rfl, rfl⟩
set_option maxRecDepth 100000 in
theorem ml_X5_48 : Cond.methodLink RX5 48 yX5_readSign ∈ gd := gd_3 239 ⟨rfl, rfl⟩
set_option maxRecDepth 100000 in
theorem ml_X5_52 : Cond.methodLink RX5 52 yX5_readNumber ∈ gd := gd_4 3 ⟨rfl, rfl⟩
set_option maxRecDepth 100000 in
theorem ml_X5_29 : Cond.methodLink RX5 29 yX5_takeNewValues ∈ gd := gd_4 10 ⟨rfl, rfl⟩
set_option maxRecDepth 100000 in
theorem ml_X10_237 : Cond.methodLink RX10 237 yX10_isOn ∈ gd := gd_4 23 ⟨rfl, rfl⟩
set_option maxRecDepth 100000 in
theorem ml_X10_244 : Cond.methodLink RX10 244 yX10_isWorker ∈ gd := gd_4 27 ⟨rfl, rfl⟩
set_option maxRecDepth 100000 in
theorem ml_X10_241 : Cond.methodLink RX10 241 yX9_isFull ∈ gd := gd_4 31 ⟨rfl, rfl⟩
set_option maxRecDepth 100000 in
theorem ml_X10_242 : Cond.methodLink RX10 242 yX9_add ∈ gd := gd_4 35 ⟨rfl, rfl⟩
set_option maxRecDepth 100000 in
theorem ml_X9_55 : Cond.methodLink RX9 55 yJ9_abs_0f7a4 ∈ gd := gd_4 39 ⟨rfl, rfl⟩
set_option maxRecDepth 100000 in
theorem ml_X10_247 : Cond.methodLink RX10 247 yX10_isCause ∈ gd := gd_4 44 ⟨rfl, rfl⟩
set_option maxRecDepth 100000 in
theorem ml_X10_250 : Cond.methodLink RX10 250 yX7_isFull ∈ gd := gd_4 47 ⟨rfl, rfl⟩
set_option maxRecDepth 100000 in
theorem ml_X10_251 : Cond.methodLink RX10 251 yX7_add ∈ gd := gd_4 51 ⟨rfl, rfl⟩
set_option maxRecDepth 100000 in
theorem ml_X10_252 : Cond.methodLink RX10 252 yX9_swapBegin ∈ gd := gd_4 59 ⟨rfl, rfl⟩
set_option maxRecDepth 100000 in
theorem ml_X10_255 : Cond.methodLink RX10 255 yX9_many ∈ gd := gd_4 67 ⟨rfl, rfl⟩
set_option maxRecDepth 100000 in
theorem ml_X10_256 : Cond.methodLink RX10 256 yX9_earnedBy ∈ gd := gd_4 71 ⟨rfl, rfl⟩
set_option maxRecDepth 100000 in
theorem ml_X9_61 : Cond.methodLink RX9 61 yX4_inForce ∈ gd := gd_4 75 ⟨rfl, rfl⟩
set_option maxRecDepth 100000 in
theorem ml_X9_69 : Cond.methodLink RX9 69 yX5_valueOf ∈ gd := gd_4 76 ⟨rfl, rfl⟩
set_option maxRecDepth 100000 in
theorem ml_X9_72 : Cond.methodLink RX9 72 yJ9_min_7cf53 ∈ gd := gd_4 77 ⟨rfl, rfl⟩
set_option maxRecDepth 100000 in
theorem ml_X9_75 : Cond.methodLink RX9 75 yX4_sumOf ∈ gd := gd_4 80 ⟨rfl, rfl⟩
set_option maxRecDepth 100000 in
theorem ml_X9_78 : Cond.methodLink RX9 78 yX9_learnersMore ∈ gd := gd_4 81 ⟨rfl, rfl⟩
set_option maxRecDepth 100000 in
theorem ml_X10_259 : Cond.methodLink RX10 259 yX3_tellOf ∈ gd := gd_4 90 ⟨rfl, rfl⟩
set_option maxRecDepth 100000 in
theorem ml_X3_23 : Cond.methodLink RX3 23 yX9_earnedIn ∈ gd := gd_4 94 ⟨rfl, rfl⟩
set_option maxRecDepth 100000 in
theorem ml_X9_81 : Cond.methodLink RX9 81 yX9_earnedBy ∈ gd := gd_4 98 ⟨rfl, rfl⟩
set_option maxRecDepth 100000 in
theorem ml_X3_29 : Cond.methodLink RX3 29 yX3_forWaiting ∈ gd := gd_4 99 ⟨rfl, rfl⟩
set_option maxRecDepth 100000 in
theorem ml_X3_35 : Cond.methodLink RX3 35 yX7_minutesIn ∈ gd := gd_4 103 ⟨rfl, rfl⟩
set_option maxRecDepth 100000 in
theorem ml_X3_43 : Cond.methodLink RX3 43 yX5_valueOf ∈ gd := gd_4 107 ⟨rfl, rfl⟩
set_option maxRecDepth 100000 in
theorem ml_X3_32 : Cond.methodLink RX3 32 yX9_minutesIn ∈ gd := gd_4 108 ⟨rfl, rfl⟩
set_option maxRecDepth 100000 in
theorem ml_X3_38 : Cond.methodLink RX3 38 yX3_allOf ∈ gd := gd_4 112 ⟨rfl, rfl⟩
set_option maxRecDepth 100000 in
theorem ml_X3_47 : Cond.methodLink RX3 47 yJ9_max_7cf53 ∈ gd := gd_4 116 ⟨rfl, rfl⟩
set_option maxRecDepth 100000 in
theorem ml_X10_262 : Cond.methodLink RX10 262 yX7_minutesFor ∈ gd := gd_4 121 ⟨rfl, rfl⟩
set_option maxRecDepth 100000 in
theorem ml_X10_265 : Cond.methodLink RX10 265 yX10_isIn ∈ gd := gd_4 129 ⟨rfl, rfl⟩
set_option maxRecDepth 100000 in
theorem ml_X10_268 : Cond.methodLink RX10 268 yX3_shareOf ∈ gd := gd_4 132 ⟨rfl, rfl⟩
set_option maxRecDepth 100000 in
theorem ml_X10_271 : Cond.methodLink RX10 271 yX10_orNone ∈ gd := gd_4 137 ⟨rfl, rfl⟩
set_option maxRecDepth 100000 in
theorem ml_X10_274 : Cond.methodLink RX10 274 yX0_survey ∈ gd := gd_4 145 ⟨rfl, rfl⟩
set_option maxRecDepth 100000 in
theorem ml_X0_26 : Cond.methodLink RX0 26 yJ7_fill_d0a16 ∈ gd := gd_4 149 ⟨rfl, rfl⟩
set_option maxRecDepth 100000 in
theorem ml_X0_32 : Cond.methodLink RX0 32 yJ7_fill_53178 ∈ gd := gd_4 152 ⟨rfl, rfl⟩
set_option maxRecDepth 100000 in
theorem ml_X0_35 : Cond.methodLink RX0 35 yX9_many ∈ gd := gd_4 153 ⟨rfl, rfl⟩
set_option maxRecDepth 100000 in
theorem ml_X0_41 : Cond.methodLink RX0 41 yX9_workerAt ∈ gd := gd_4 154 ⟨rfl, rfl⟩
set_option maxRecDepth 100000 in
theorem ml_X0_45 : Cond.methodLink RX0 45 yX9_jobAt ∈ gd := gd_4 158 ⟨rfl, rfl⟩
set_option maxRecDepth 100000 in
theorem ml_X0_48 : Cond.methodLink RX0 48 yX9_earnedBy ∈ gd := gd_4 162 ⟨rfl, rfl⟩
set_option maxRecDepth 100000 in
theorem ml_X0_51 : Cond.methodLink RX0 51 yX9_minutesAt ∈ gd := gd_4 163 ⟨rfl, rfl⟩
set_option maxRecDepth 100000 in
theorem ml_X10_277 : Cond.methodLink RX10 277 yX0_efficiencyOf ∈ gd := gd_4 167 ⟨rfl, rfl⟩
set_option maxRecDepth 100000 in
theorem ml_X10_280 : Cond.methodLink RX10 280 yX0_isLooser ∈ gd := gd_4 176 ⟨rfl, rfl⟩
set_option maxRecDepth 100000 in
theorem ml_X0_56 : Cond.methodLink RX0 56 yX0_efficiencyOf ∈ gd := gd_4 180 ⟨rfl, rfl⟩
set_option maxRecDepth 100000 in
theorem ml_X0_60 : Cond.methodLink RX0 60 yX0_waysToChoose ∈ gd := gd_4 181 ⟨rfl, rfl⟩
set_option maxRecDepth 100000 in
theorem ml_X10_283 : Cond.methodLink RX10 283 yX0_jobAt ∈ gd := gd_4 188 ⟨rfl, rfl⟩
set_option maxRecDepth 100000 in
theorem ml_X0_63 : Cond.methodLink RX0 63 yX0_reckonScores ∈ gd := gd_4 192 ⟨rfl, rfl⟩
set_option maxRecDepth 100000 in
theorem ml_X0_73 : Cond.methodLink RX0 73 yX0_isLooser ∈ gd := gd_4 196 ⟨rfl, rfl⟩
set_option maxRecDepth 100000 in
theorem ml_X0_66 : Cond.methodLink RX0 66 yX0_hasRows ∈ gd := gd_4 197 ⟨rfl, rfl⟩
set_option maxRecDepth 100000 in
theorem ml_X0_70 : Cond.methodLink RX0 70 yX0_manyAhead ∈ gd := gd_4 201 ⟨rfl, rfl⟩
set_option maxRecDepth 100000 in
theorem ml_X10_286 : Cond.methodLink RX10 286 yX6_gather ∈ gd := gd_4 209 ⟨rfl, rfl⟩
set_option maxRecDepth 100000 in
theorem ml_X6_33 : Cond.methodLink RX6 33 yX9_many ∈ gd := gd_4 213 ⟨rfl, rfl⟩
set_option maxRecDepth 100000 in
theorem ml_X6_38 : Cond.methodLink RX6 38 yX9_workerAt ∈ gd := gd_4 214 ⟨rfl, rfl⟩
set_option maxRecDepth 100000 in
theorem ml_X6_42 : Cond.methodLink RX6 42 yX9_jobAt ∈ gd := gd_4 215 ⟨rfl, rfl⟩
set_option maxRecDepth 100000 in
theorem ml_X6_45 : Cond.methodLink RX6 45 yX9_goodAt ∈ gd := gd_4 216 ⟨rfl, rfl⟩
set_option maxRecDepth 100000 in
theorem ml_X6_48 : Cond.methodLink RX6 48 yX9_minutesAt ∈ gd := gd_4 220 ⟨rfl, rfl⟩
set_option maxRecDepth 100000 in
theorem ml_X6_51 : Cond.methodLink RX6 51 yX9_isWatched ∈ gd := gd_4 221 ⟨rfl, rfl⟩
set_option maxRecDepth 100000 in
theorem ml_X10_289 : Cond.methodLink RX10 289 yX6_canTell ∈ gd := gd_4 225 ⟨rfl, rfl⟩
set_option maxRecDepth 100000 in
theorem ml_X10_292 : Cond.methodLink RX10 292 yX6_isBeyondDoubt ∈ gd := gd_4 229 ⟨rfl, rfl⟩
set_option maxRecDepth 100000 in
theorem ml_X6_55 : Cond.methodLink RX6 55 yX6_countWays ∈ gd := gd_4 233 ⟨rfl, rfl⟩
set_option maxRecDepth 100000 in
theorem ml_X6_64 : Cond.methodLink RX6 64 yJ7_fill_53178 ∈ gd := gd_4 237 ⟨rfl, rfl⟩
set_option maxRecDepth 100000 in
theorem ml_X6_61 : Cond.methodLink RX6 61 yX6_rankOf ∈ gd := gd_4 238 ⟨rfl, rfl⟩
set_option maxRecDepth 100000 in
theorem ml_X6_70 : Cond.methodLink RX6 70 yJ9_min_7cf53 ∈ gd := gd_5 2 ⟨rfl, rfl⟩
set_option maxRecDepth 100000 in
theorem ml_X6_76 : Cond.methodLink RX6 76 yX6_addRow ∈ gd := gd_5 3 ⟨rfl, rfl⟩
set_option maxRecDepth 100000 in
theorem ml_X6_58 : Cond.methodLink RX6 58 yX6_watchedRanks ∈ gd := gd_5 7 ⟨rfl, rfl⟩
set_option maxRecDepth 100000 in
theorem ml_X10_298 : Cond.methodLink RX10 298 yX3_allOf ∈ gd := gd_5 19 ⟨rfl, rfl⟩
set_option maxRecDepth 100000 in
theorem ml_X10_301 : Cond.methodLink RX10 301 yX1_many ∈ gd := gd_5 24 ⟨rfl, rfl⟩
set_option maxRecDepth 100000 in
theorem ml_X10_302 : Cond.methodLink RX10 302 yX8_filmMany ∈ gd := gd_5 28 ⟨rfl, rfl⟩
set_option maxRecDepth 100000 in
theorem ml_X10_305 : Cond.methodLink RX10 305 yX4_many ∈ gd := gd_5 32 ⟨rfl, rfl⟩
set_option maxRecDepth 100000 in
theorem ml_X10_306 : Cond.methodLink RX10 306 yX7_many ∈ gd := gd_5 36 ⟨rfl, rfl⟩
set_option maxRecDepth 100000 in
theorem ml_X10_307 : Cond.methodLink RX10 307 yX5_byteMany ∈ gd := gd_5 40 ⟨rfl, rfl⟩
set_option maxRecDepth 100000 in
theorem ml_X11_133 : Cond.methodLink RX11 133 yX11_isIn ∈ gd := gd_5 206 ⟨rfl, rfl⟩
set_option maxRecDepth 100000 in
theorem ml_X11_137 : Cond.methodLink RX11 137 yX11_finding ∈ gd := gd_5 209 ⟨rfl, rfl⟩
set_option maxRecDepth 100000 in
theorem ml_X11_141 : Cond.methodLink RX11 141 yX11_isElement ∈ gd := gd_5 218 ⟨rfl, rfl⟩
set_option maxRecDepth 100000 in
theorem ml_X11_145 : Cond.methodLink RX11 145 yX11_allowanceOf ∈ gd := gd_5 222 ⟨rfl, rfl⟩
set_option maxRecDepth 100000 in
theorem ml_X11_148 : Cond.methodLink RX11 148 yX11_isPace ∈ gd := gd_5 234 ⟨rfl, rfl⟩
set_option maxRecDepth 100000 in
theorem ml_X11_154 : Cond.methodLink RX11 154 yX11_habitOf ∈ gd := gd_6 1 ⟨rfl, rfl⟩
set_option maxRecDepth 100000 in
theorem ml_X11_160 : Cond.methodLink RX11 160 yX11_normalOf ∈ gd := gd_6 13 ⟨rfl, rfl⟩
set_option maxRecDepth 100000 in
theorem ml_X11_167 : Cond.methodLink RX11 167 yX11_cyclesOf ∈ gd := gd_6 21 ⟨rfl, rfl⟩
set_option maxRecDepth 100000 in
theorem ml_X11_170 : Cond.methodLink RX11 170 yX11_standardOf ∈ gd := gd_6 25 ⟨rfl, rfl⟩
set_option maxRecDepth 100000 in
theorem ml_X11_163 : Cond.methodLink RX11 163 yX11_keptOf ∈ gd := gd_6 29 ⟨rfl, rfl⟩
set_option maxRecDepth 100000 in
theorem ml_X11_176 : Cond.methodLink RX11 176 yX11_isJob ∈ gd := gd_6 41 ⟨rfl, rfl⟩
set_option maxRecDepth 100000 in
theorem ml_X11_179 : Cond.methodLink RX11 179 yX11_latestOf ∈ gd := gd_6 45 ⟨rfl, rfl⟩
set_option maxRecDepth 100000 in
theorem ml_X11_188 : Cond.methodLink RX11 188 yX11_make ∈ gd := gd_6 53 ⟨rfl, rfl⟩
set_option maxRecDepth 100000 in
theorem ml_X11_182 : Cond.methodLink RX11 182 yX11_sumOf ∈ gd := gd_6 57 ⟨rfl, rfl⟩
set_option maxRecDepth 100000 in
theorem ml_X11_192 : Cond.methodLink RX11 192 yX11_isWeek ∈ gd := gd_6 73 ⟨rfl, rfl⟩
set_option maxRecDepth 100000 in
theorem ml_X11_195 : Cond.methodLink RX11 195 yX11_forceOf ∈ gd := gd_6 76 ⟨rfl, rfl⟩
set_option maxRecDepth 100000 in
theorem ml_X11_214 : Cond.methodLink RX11 214 yX11_readAll ∈ gd := gd_6 96 ⟨rfl, rfl⟩
set_option maxRecDepth 100000 in
theorem ml_X11_211 : Cond.methodLink RX11 211 yX11_wordHere ∈ gd := gd_6 100 ⟨rfl, rfl⟩
set_option maxRecDepth 100000 in
theorem ml_X11_207 : Cond.methodLink RX11 207 yX11_here ∈ gd := gd_6 106 ⟨rfl, rfl⟩
set_option maxRecDepth 100000 in
theorem ml_X11_217 : Cond.methodLink RX11 217 yX11_isWorker ∈ gd := gd_6 118 ⟨rfl, rfl⟩
set_option maxRecDepth 100000 in
theorem ml_X11_227 : Cond.methodLink RX11 227 yX11_earnedBy ∈ gd := gd_6 134 ⟨rfl, rfl⟩
set_option maxRecDepth 100000 in
theorem ml_X11_230 : Cond.methodLink RX11 230 yX11_payOf ∈ gd := gd_6 142 ⟨rfl, rfl⟩
set_option maxRecDepth 100000 in
theorem ml_X11_235 : Cond.methodLink RX11 235 yX11_efficiencyOf ∈ gd := gd_6 158 ⟨rfl, rfl⟩
set_option maxRecDepth 100000 in
theorem ml_X11_241 : Cond.methodLink RX11 241 yX11_isLooser ∈ gd := gd_6 167 ⟨rfl, rfl⟩
set_option maxRecDepth 100000 in
theorem ml_X11_238 : Cond.methodLink RX11 238 yX11_ones ∈ gd := gd_6 171 ⟨rfl, rfl⟩
set_option maxRecDepth 100000 in
theorem nl_X1_22 : Cond.methodLinkNest RX1 22 yX10_isWithin "BenchTimes" ∈ nestW := List.mem_of_getElem? (i := 0) rfl
set_option maxRecDepth 100000 in
theorem nl_X2_29 : Cond.methodLinkNest RX2 29 yX10_isWithin "BenchTimes" ∈ nestW := List.mem_of_getElem? (i := 1) rfl
set_option maxRecDepth 100000 in
theorem nl_X5_80 : Cond.methodLinkNest RX5 80 yX10_isWithin "BenchTimes" ∈ nestW := List.mem_of_getElem? (i := 2) rfl
set_option maxRecDepth 100000 in
theorem nl_X9_84 : Cond.methodLinkNest RX9 84 yX10_isWithin "BenchTimes" ∈ nestW := List.mem_of_getElem? (i := 3) rfl
set_option maxRecDepth 100000 in
theorem nl_X3_52 : Cond.methodLinkNest RX3 52 yX10_isIn "BenchTimes" ∈ nestW := List.mem_of_getElem? (i := 4) rfl
set_option maxRecDepth 100000 in
theorem mb_J0_charAt_5068e : MB yJ0_charAt_5068e cJ0_charAt_5068e 2 (some .char) 1 := ⟨gd_1 15 ⟨rfl, rfl⟩, gd_3 203 ⟨rfl, rfl⟩, by decide +kernel, by decide +kernel, by decide +kernel⟩
set_option maxRecDepth 100000 in
theorem mi_J0_charAt_5068e : MI yJ0_charAt_5068e := ⟨gd_3 201 ⟨rfl, rfl⟩, gd_3 202 ⟨rfl, rfl⟩⟩
set_option maxRecDepth 100000 in
theorem mb_J0_checkIndex_df160 : MB yJ0_checkIndex_df160 cJ0_checkIndex_df160 2 none 2 := ⟨gd_1 15 ⟨rfl, rfl⟩, gd_3 213 ⟨rfl, rfl⟩, by decide +kernel, by decide +kernel, by decide +kernel⟩
set_option maxRecDepth 100000 in
theorem ms_J0_checkIndex_df160 : Cond.static yJ0_checkIndex_df160 ∈ gd := gd_3 212 ⟨rfl, rfl⟩
set_option maxRecDepth 100000 in
theorem mb_J0_coder_7d493 : MB yJ0_coder_7d493 cJ0_coder_7d493 1 (some .byte) 0 := ⟨gd_1 15 ⟨rfl, rfl⟩, gd_3 197 ⟨rfl, rfl⟩, by decide +kernel, by decide +kernel, by decide +kernel⟩
set_option maxRecDepth 100000 in
theorem mi_J0_coder_7d493 : MI yJ0_coder_7d493 := ⟨gd_3 195 ⟨rfl, rfl⟩, gd_3 196 ⟨rfl, rfl⟩⟩
set_option maxRecDepth 100000 in
theorem mb_J0_isLatin1_aae02 : MB yJ0_isLatin1_aae02 cJ0_isLatin1_aae02 1 (some .boolean) 0 := ⟨gd_1 15 ⟨rfl, rfl⟩, gd_3 207 ⟨rfl, rfl⟩, by decide +kernel, by decide +kernel, by decide +kernel⟩
set_option maxRecDepth 100000 in
theorem mi_J0_isLatin1_aae02 : MI yJ0_isLatin1_aae02 := ⟨gd_3 205 ⟨rfl, rfl⟩, gd_3 206 ⟨rfl, rfl⟩⟩
set_option maxRecDepth 100000 in
theorem mb_J0_length_8abf5 : MB yJ0_length_8abf5 cJ0_length_8abf5 1 (some .int) 0 := ⟨gd_1 15 ⟨rfl, rfl⟩, gd_3 193 ⟨rfl, rfl⟩, by decide +kernel, by decide +kernel, by decide +kernel⟩
set_option maxRecDepth 100000 in
theorem mi_J0_length_8abf5 : MI yJ0_length_8abf5 := ⟨gd_3 191 ⟨rfl, rfl⟩, gd_3 192 ⟨rfl, rfl⟩⟩
set_option maxRecDepth 100000 in
theorem mb_J1_charAt_3b067 : MB yJ1_charAt_3b067 cJ1_charAt_3b067 2 (some .char) 2 := ⟨gd_1 16 ⟨rfl, rfl⟩, gd_3 210 ⟨rfl, rfl⟩, by decide +kernel, by decide +kernel, by decide +kernel⟩
set_option maxRecDepth 100000 in
theorem ms_J1_charAt_3b067 : Cond.static yJ1_charAt_3b067 ∈ gd := gd_3 209 ⟨rfl, rfl⟩
set_option maxRecDepth 100000 in
theorem mb_J2_charAt_3b067 : MB yJ2_charAt_3b067 cJ2_charAt_3b067 2 (some .char) 2 := ⟨gd_1 18 ⟨rfl, rfl⟩, gd_3 221 ⟨rfl, rfl⟩, by decide +kernel, by decide +kernel, by decide +kernel⟩
set_option maxRecDepth 100000 in
theorem ms_J2_charAt_3b067 : Cond.static yJ2_charAt_3b067 ∈ gd := gd_3 220 ⟨rfl, rfl⟩
set_option maxRecDepth 100000 in
theorem mb_J2_checkIndex_2214a : MB yJ2_checkIndex_2214a cJ2_checkIndex_2214a 2 none 2 := ⟨gd_1 18 ⟨rfl, rfl⟩, gd_3 224 ⟨rfl, rfl⟩, by decide +kernel, by decide +kernel, by decide +kernel⟩
set_option maxRecDepth 100000 in
theorem ms_J2_checkIndex_2214a : Cond.static yJ2_checkIndex_2214a ∈ gd := gd_3 223 ⟨rfl, rfl⟩
set_option maxRecDepth 100000 in
theorem mb_J2_getChar_3b067 : MB yJ2_getChar_3b067 cJ2_getChar_3b067 2 (some .char) 2 := ⟨gd_1 18 ⟨rfl, rfl⟩, gd_3 231 ⟨rfl, rfl⟩, by decide +kernel, by decide +kernel, by decide +kernel⟩
set_option maxRecDepth 100000 in
theorem ms_J2_getChar_3b067 : Cond.static yJ2_getChar_3b067 ∈ gd := gd_3 230 ⟨rfl, rfl⟩
set_option maxRecDepth 100000 in
theorem mb_J2_length_9d52b : MB yJ2_length_9d52b cJ2_length_9d52b 1 (some .int) 1 := ⟨gd_1 18 ⟨rfl, rfl⟩, gd_3 227 ⟨rfl, rfl⟩, by decide +kernel, by decide +kernel, by decide +kernel⟩
set_option maxRecDepth 100000 in
theorem ms_J2_length_9d52b : Cond.static yJ2_length_9d52b ∈ gd := gd_3 226 ⟨rfl, rfl⟩
set_option maxRecDepth 100000 in
theorem mb_J3_checkIndex_8e157 : MB yJ3_checkIndex_8e157 cJ3_checkIndex_8e157 3 (some .int) 3 := ⟨gd_1 17 ⟨rfl, rfl⟩, gd_3 218 ⟨rfl, rfl⟩, by decide +kernel, by decide +kernel, by decide +kernel⟩
set_option maxRecDepth 100000 in
theorem ms_J3_checkIndex_8e157 : Cond.static yJ3_checkIndex_8e157 ∈ gd := gd_3 217 ⟨rfl, rfl⟩
set_option maxRecDepth 100000 in
theorem mb_J7_fill_53178 : MB yJ7_fill_53178 cJ7_fill_53178 4 none 2 := ⟨gd_1 8 ⟨rfl, rfl⟩, gd_1 183 ⟨rfl, rfl⟩, by decide +kernel, by decide +kernel, by decide +kernel⟩
set_option maxRecDepth 100000 in
theorem ms_J7_fill_53178 : Cond.static yJ7_fill_53178 ∈ gd := gd_1 182 ⟨rfl, rfl⟩
set_option maxRecDepth 100000 in
theorem mb_J7_fill_d0a16 : MB yJ7_fill_d0a16 cJ7_fill_d0a16 5 none 2 := ⟨gd_1 8 ⟨rfl, rfl⟩, gd_4 151 ⟨rfl, rfl⟩, by decide +kernel, by decide +kernel, by decide +kernel⟩
set_option maxRecDepth 100000 in
theorem ms_J7_fill_d0a16 : Cond.static yJ7_fill_d0a16 ∈ gd := gd_4 150 ⟨rfl, rfl⟩
set_option maxRecDepth 100000 in
theorem mb_J9_abs_0f7a4 : MB yJ9_abs_0f7a4 cJ9_abs_0f7a4 1 (some .int) 1 := ⟨gd_1 14 ⟨rfl, rfl⟩, gd_2 237 ⟨rfl, rfl⟩, by decide +kernel, by decide +kernel, by decide +kernel⟩
set_option maxRecDepth 100000 in
theorem ms_J9_abs_0f7a4 : Cond.static yJ9_abs_0f7a4 ∈ gd := gd_2 236 ⟨rfl, rfl⟩
set_option maxRecDepth 100000 in
theorem mb_J9_max_7cf53 : MB yJ9_max_7cf53 cJ9_max_7cf53 2 (some .int) 2 := ⟨gd_1 14 ⟨rfl, rfl⟩, gd_2 209 ⟨rfl, rfl⟩, by decide +kernel, by decide +kernel, by decide +kernel⟩
set_option maxRecDepth 100000 in
theorem ms_J9_max_7cf53 : Cond.static yJ9_max_7cf53 ∈ gd := gd_2 208 ⟨rfl, rfl⟩
set_option maxRecDepth 100000 in
theorem mb_J9_min_7cf53 : MB yJ9_min_7cf53 cJ9_min_7cf53 2 (some .int) 2 := ⟨gd_1 14 ⟨rfl, rfl⟩, gd_4 79 ⟨rfl, rfl⟩, by decide +kernel, by decide +kernel, by decide +kernel⟩
set_option maxRecDepth 100000 in
theorem ms_J9_min_7cf53 : Cond.static yJ9_min_7cf53 ∈ gd := gd_4 78 ⟨rfl, rfl⟩
set_option maxRecDepth 100000 in
theorem mb_X0_efficiencyOf : MB yX0_efficiencyOf cX0_efficiencyOf 4 (some .int) 2 := ⟨gd_1 11 ⟨rfl, rfl⟩, gd_4 170 ⟨rfl, rfl⟩, by decide +kernel, by decide +kernel, by decide +kernel⟩
set_option maxRecDepth 100000 in
theorem mi_X0_efficiencyOf : MI yX0_efficiencyOf := ⟨gd_4 168 ⟨rfl, rfl⟩, gd_4 169 ⟨rfl, rfl⟩⟩
set_option maxRecDepth 100000 in
theorem mb_X0_hasRows : MB yX0_hasRows cX0_hasRows 3 (some .boolean) 1 := ⟨gd_1 11 ⟨rfl, rfl⟩, gd_4 200 ⟨rfl, rfl⟩, by decide +kernel, by decide +kernel, by decide +kernel⟩
set_option maxRecDepth 100000 in
theorem mi_X0_hasRows : MI yX0_hasRows := ⟨gd_4 199 ⟨rfl, rfl⟩, gd_p 17 ⟨rfl, rfl⟩⟩
set_option maxRecDepth 100000 in
theorem mb_X0_init : MB yX0_init cX0_init 2 none 1 := ⟨gd_1 11 ⟨rfl, rfl⟩, gd_2 20 ⟨rfl, rfl⟩, by decide +kernel, by decide +kernel, by decide +kernel⟩
set_option maxRecDepth 100000 in
theorem mb_X0_isLooser : MB yX0_isLooser cX0_isLooser 8 (some .boolean) 2 := ⟨gd_1 11 ⟨rfl, rfl⟩, gd_4 179 ⟨rfl, rfl⟩, by decide +kernel, by decide +kernel, by decide +kernel⟩
set_option maxRecDepth 100000 in
theorem mi_X0_isLooser : MI yX0_isLooser := ⟨gd_4 177 ⟨rfl, rfl⟩, gd_4 178 ⟨rfl, rfl⟩⟩
set_option maxRecDepth 100000 in
theorem mb_X0_jobAt : MB yX0_jobAt cX0_jobAt 3 (some .int) 1 := ⟨gd_1 11 ⟨rfl, rfl⟩, gd_4 191 ⟨rfl, rfl⟩, by decide +kernel, by decide +kernel, by decide +kernel⟩
set_option maxRecDepth 100000 in
theorem mi_X0_jobAt : MI yX0_jobAt := ⟨gd_4 189 ⟨rfl, rfl⟩, gd_4 190 ⟨rfl, rfl⟩⟩
set_option maxRecDepth 100000 in
theorem mb_X0_manyAhead : MB yX0_manyAhead cX0_manyAhead 5 (some .int) 1 := ⟨gd_1 11 ⟨rfl, rfl⟩, gd_4 204 ⟨rfl, rfl⟩, by decide +kernel, by decide +kernel, by decide +kernel⟩
set_option maxRecDepth 100000 in
theorem mi_X0_manyAhead : MI yX0_manyAhead := ⟨gd_4 203 ⟨rfl, rfl⟩, gd_p 18 ⟨rfl, rfl⟩⟩
set_option maxRecDepth 100000 in
theorem mb_X0_reckonScores : MB yX0_reckonScores cX0_reckonScores 3 none 0 := ⟨gd_1 11 ⟨rfl, rfl⟩, gd_4 195 ⟨rfl, rfl⟩, by decide +kernel, by decide +kernel, by decide +kernel⟩
set_option maxRecDepth 100000 in
theorem mi_X0_reckonScores : MI yX0_reckonScores := ⟨gd_4 194 ⟨rfl, rfl⟩, gd_p 16 ⟨rfl, rfl⟩⟩
set_option maxRecDepth 100000 in
theorem mb_X0_survey : MB yX0_survey cX0_survey 3 none 0 := ⟨gd_1 11 ⟨rfl, rfl⟩, gd_4 148 ⟨rfl, rfl⟩, by decide +kernel, by decide +kernel, by decide +kernel⟩
set_option maxRecDepth 100000 in
theorem mi_X0_survey : MI yX0_survey := ⟨gd_4 146 ⟨rfl, rfl⟩, gd_4 147 ⟨rfl, rfl⟩⟩
set_option maxRecDepth 100000 in
theorem mb_X0_waysToChoose : MB yX0_waysToChoose cX0_waysToChoose 5 (some .int) 2 := ⟨gd_1 11 ⟨rfl, rfl⟩, gd_4 183 ⟨rfl, rfl⟩, by decide +kernel, by decide +kernel, by decide +kernel⟩
set_option maxRecDepth 100000 in
theorem ms_X0_waysToChoose : Cond.static yX0_waysToChoose ∈ gd := gd_4 182 ⟨rfl, rfl⟩
set_option maxRecDepth 100000 in
theorem mb_X10_allow : MB yX10_allow cX10_allow 3 (some .int) 2 := ⟨gd_1 1 ⟨rfl, rfl⟩, gd_2 150 ⟨rfl, rfl⟩, by decide +kernel, by decide +kernel, by decide +kernel⟩
set_option maxRecDepth 100000 in
theorem mi_X10_allow : MI yX10_allow := ⟨gd_2 148 ⟨rfl, rfl⟩, gd_2 149 ⟨rfl, rfl⟩⟩
set_option maxRecDepth 100000 in
theorem mb_X10_as : MB yX10_as cX10_as 3 (some .int) 2 := ⟨gd_1 1 ⟨rfl, rfl⟩, gd_2 132 ⟨rfl, rfl⟩, by decide +kernel, by decide +kernel, by decide +kernel⟩
set_option maxRecDepth 100000 in
theorem mi_X10_as : MI yX10_as := ⟨gd_2 130 ⟨rfl, rfl⟩, gd_2 131 ⟨rfl, rfl⟩⟩
set_option maxRecDepth 100000 in
theorem mb_X10_cause : MB yX10_cause cX10_cause 2 (some .int) 1 := ⟨gd_1 1 ⟨rfl, rfl⟩, gd_4 120 ⟨rfl, rfl⟩, by decide +kernel, by decide +kernel, by decide +kernel⟩
set_option maxRecDepth 100000 in
theorem mi_X10_cause : MI yX10_cause := ⟨gd_4 118 ⟨rfl, rfl⟩, gd_4 119 ⟨rfl, rfl⟩⟩
set_option maxRecDepth 100000 in
theorem mb_X10_change : MB yX10_change cX10_change 5 (some .int) 1 := ⟨gd_1 1 ⟨rfl, rfl⟩, gd_3 95 ⟨rfl, rfl⟩, by decide +kernel, by decide +kernel, by decide +kernel⟩
set_option maxRecDepth 100000 in
theorem mi_X10_change : MI yX10_change := ⟨gd_3 93 ⟨rfl, rfl⟩, gd_3 94 ⟨rfl, rfl⟩⟩
set_option maxRecDepth 100000 in
theorem mb_X10_check : MB yX10_check cX10_check 4 (some .int) 1 := ⟨gd_1 1 ⟨rfl, rfl⟩, gd_5 18 ⟨rfl, rfl⟩, by decide +kernel, by decide +kernel, by decide +kernel⟩
set_option maxRecDepth 100000 in
theorem mi_X10_check : MI yX10_check := ⟨gd_5 16 ⟨rfl, rfl⟩, gd_5 17 ⟨rfl, rfl⟩⟩
set_option maxRecDepth 100000 in
theorem mb_X10_count : MB yX10_count cX10_count 2 (some .int) 1 := ⟨gd_1 1 ⟨rfl, rfl⟩, gd_5 23 ⟨rfl, rfl⟩, by decide +kernel, by decide +kernel, by decide +kernel⟩
set_option maxRecDepth 100000 in
theorem mi_X10_count : MI yX10_count := ⟨gd_5 21 ⟨rfl, rfl⟩, gd_5 22 ⟨rfl, rfl⟩⟩
set_option maxRecDepth 100000 in
theorem mb_X10_cycle : MB yX10_cycle cX10_cycle 5 (some .int) 4 := ⟨gd_1 1 ⟨rfl, rfl⟩, gd_2 185 ⟨rfl, rfl⟩, by decide +kernel, by decide +kernel, by decide +kernel⟩
set_option maxRecDepth 100000 in
theorem mi_X10_cycle : MI yX10_cycle := ⟨gd_2 183 ⟨rfl, rfl⟩, gd_2 184 ⟨rfl, rfl⟩⟩
set_option maxRecDepth 100000 in
theorem mb_X10_earned : MB yX10_earned cX10_earned 2 (some .int) 1 := ⟨gd_1 1 ⟨rfl, rfl⟩, gd_4 66 ⟨rfl, rfl⟩, by decide +kernel, by decide +kernel, by decide +kernel⟩
set_option maxRecDepth 100000 in
theorem mi_X10_earned : MI yX10_earned := ⟨gd_4 64 ⟨rfl, rfl⟩, gd_4 65 ⟨rfl, rfl⟩⟩
set_option maxRecDepth 100000 in
theorem mb_X10_efficiency : MB yX10_efficiency cX10_efficiency 3 (some .int) 2 := ⟨gd_1 1 ⟨rfl, rfl⟩, gd_4 144 ⟨rfl, rfl⟩, by decide +kernel, by decide +kernel, by decide +kernel⟩
set_option maxRecDepth 100000 in
theorem mi_X10_efficiency : MI yX10_efficiency := ⟨gd_4 142 ⟨rfl, rfl⟩, gd_4 143 ⟨rfl, rfl⟩⟩
set_option maxRecDepth 100000 in
theorem mb_X10_element : MB yX10_element cX10_element 2 (some .int) 1 := ⟨gd_1 1 ⟨rfl, rfl⟩, gd_2 109 ⟨rfl, rfl⟩, by decide +kernel, by decide +kernel, by decide +kernel⟩
set_option maxRecDepth 100000 in
theorem mi_X10_element : MI yX10_element := ⟨gd_2 107 ⟨rfl, rfl⟩, gd_2 108 ⟨rfl, rfl⟩⟩
set_option maxRecDepth 100000 in
theorem mb_X10_feed : MB yX10_feed cX10_feed 2 (some .int) 1 := ⟨gd_1 1 ⟨rfl, rfl⟩, gd_3 148 ⟨rfl, rfl⟩, by decide +kernel, by decide +kernel, by decide +kernel⟩
set_option maxRecDepth 100000 in
theorem mi_X10_feed : MI yX10_feed := ⟨gd_3 146 ⟨rfl, rfl⟩, gd_3 147 ⟨rfl, rfl⟩⟩
set_option maxRecDepth 100000 in
theorem mb_X10_film : MB yX10_film cX10_film 4 (some .int) 3 := ⟨gd_1 1 ⟨rfl, rfl⟩, gd_2 159 ⟨rfl, rfl⟩, by decide +kernel, by decide +kernel, by decide +kernel⟩
set_option maxRecDepth 100000 in
theorem mi_X10_film : MI yX10_film := ⟨gd_2 157 ⟨rfl, rfl⟩, gd_2 158 ⟨rfl, rfl⟩⟩
set_option maxRecDepth 100000 in
theorem mb_X10_finding : MB yX10_finding cX10_finding 2 (some .int) 1 := ⟨gd_1 1 ⟨rfl, rfl⟩, gd_2 119 ⟨rfl, rfl⟩, by decide +kernel, by decide +kernel, by decide +kernel⟩
set_option maxRecDepth 100000 in
theorem mi_X10_finding : MI yX10_finding := ⟨gd_2 118 ⟨rfl, rfl⟩, gd_p 0 ⟨rfl, rfl⟩⟩
set_option maxRecDepth 100000 in
theorem mb_X10_found : MB yX10_found cX10_found 2 (some .int) 1 := ⟨gd_1 1 ⟨rfl, rfl⟩, gd_5 47 ⟨rfl, rfl⟩, by decide +kernel, by decide +kernel, by decide +kernel⟩
set_option maxRecDepth 100000 in
theorem mi_X10_found : MI yX10_found := ⟨gd_5 45 ⟨rfl, rfl⟩, gd_5 46 ⟨rfl, rfl⟩⟩
set_option maxRecDepth 100000 in
theorem mb_X10_habit : MB yX10_habit cX10_habit 2 (some .int) 1 := ⟨gd_1 1 ⟨rfl, rfl⟩, gd_2 177 ⟨rfl, rfl⟩, by decide +kernel, by decide +kernel, by decide +kernel⟩
set_option maxRecDepth 100000 in
theorem mi_X10_habit : MI yX10_habit := ⟨gd_2 175 ⟨rfl, rfl⟩, gd_2 176 ⟨rfl, rfl⟩⟩
set_option maxRecDepth 100000 in
theorem mb_X10_init : MB yX10_init cX10_init 1 none 0 := ⟨gd_1 1 ⟨rfl, rfl⟩, gd_1 23 ⟨rfl, rfl⟩, by decide +kernel, by decide +kernel, by decide +kernel⟩
set_option maxRecDepth 100000 in
theorem mb_X10_isCause : MB yX10_isCause cX10_isCause 1 (some .boolean) 1 := ⟨gd_1 1 ⟨rfl, rfl⟩, gd_4 46 ⟨rfl, rfl⟩, by decide +kernel, by decide +kernel, by decide +kernel⟩
set_option maxRecDepth 100000 in
theorem ms_X10_isCause : Cond.static yX10_isCause ∈ gd := gd_4 45 ⟨rfl, rfl⟩
set_option maxRecDepth 100000 in
theorem mb_X10_isIn : MB yX10_isIn cX10_isIn 2 (some .boolean) 2 := ⟨gd_1 1 ⟨rfl, rfl⟩, gd_4 131 ⟨rfl, rfl⟩, by decide +kernel, by decide +kernel, by decide +kernel⟩
set_option maxRecDepth 100000 in
theorem ms_X10_isIn : Cond.static yX10_isIn ∈ gd := gd_4 130 ⟨rfl, rfl⟩
set_option maxRecDepth 100000 in
theorem mb_X10_isOn : MB yX10_isOn cX10_isOn 2 (some .boolean) 1 := ⟨gd_1 1 ⟨rfl, rfl⟩, gd_4 26 ⟨rfl, rfl⟩, by decide +kernel, by decide +kernel, by decide +kernel⟩
set_option maxRecDepth 100000 in
theorem mi_X10_isOn : MI yX10_isOn := ⟨gd_4 25 ⟨rfl, rfl⟩, gd_p 12 ⟨rfl, rfl⟩⟩
set_option maxRecDepth 100000 in
theorem mb_X10_isPace : MB yX10_isPace cX10_isPace 1 (some .boolean) 1 := ⟨gd_1 1 ⟨rfl, rfl⟩, gd_2 165 ⟨rfl, rfl⟩, by decide +kernel, by decide +kernel, by decide +kernel⟩
set_option maxRecDepth 100000 in
theorem ms_X10_isPace : Cond.static yX10_isPace ∈ gd := gd_2 164 ⟨rfl, rfl⟩
set_option maxRecDepth 100000 in
theorem mb_X10_isRater : MB yX10_isRater cX10_isRater 1 (some .boolean) 1 := ⟨gd_1 1 ⟨rfl, rfl⟩, gd_2 162 ⟨rfl, rfl⟩, by decide +kernel, by decide +kernel, by decide +kernel⟩
set_option maxRecDepth 100000 in
theorem ms_X10_isRater : Cond.static yX10_isRater ∈ gd := gd_2 161 ⟨rfl, rfl⟩
set_option maxRecDepth 100000 in
theorem mb_X10_isWeek : MB yX10_isWeek cX10_isWeek 1 (some .boolean) 1 := ⟨gd_1 1 ⟨rfl, rfl⟩, gd_3 127 ⟨rfl, rfl⟩, by decide +kernel, by decide +kernel, by decide +kernel⟩
set_option maxRecDepth 100000 in
theorem ms_X10_isWeek : Cond.static yX10_isWeek ∈ gd := gd_3 126 ⟨rfl, rfl⟩
set_option maxRecDepth 100000 in
theorem mb_X10_isWithin : MB yX10_isWithin cX10_isWithin 3 (some .boolean) 3 := ⟨gd_1 1 ⟨rfl, rfl⟩, gd_2 115 ⟨rfl, rfl⟩, by decide +kernel, by decide +kernel, by decide +kernel⟩
set_option maxRecDepth 100000 in
theorem ms_X10_isWithin : Cond.static yX10_isWithin ∈ gd := gd_2 114 ⟨rfl, rfl⟩
set_option maxRecDepth 100000 in
theorem mb_X10_isWorker : MB yX10_isWorker cX10_isWorker 1 (some .boolean) 1 := ⟨gd_1 1 ⟨rfl, rfl⟩, gd_4 29 ⟨rfl, rfl⟩, by decide +kernel, by decide +kernel, by decide +kernel⟩
set_option maxRecDepth 100000 in
theorem ms_X10_isWorker : Cond.static yX10_isWorker ∈ gd := gd_4 28 ⟨rfl, rfl⟩
set_option maxRecDepth 100000 in
theorem mb_X10_job : MB yX10_job cX10_job 1 (some .int) 0 := ⟨gd_1 1 ⟨rfl, rfl⟩, gd_3 6 ⟨rfl, rfl⟩, by decide +kernel, by decide +kernel, by decide +kernel⟩
set_option maxRecDepth 100000 in
theorem mi_X10_job : MI yX10_job := ⟨gd_3 4 ⟨rfl, rfl⟩, gd_3 5 ⟨rfl, rfl⟩⟩
set_option maxRecDepth 100000 in
theorem mb_X10_learner : MB yX10_learner cX10_learner 4 (some .int) 3 := ⟨gd_1 1 ⟨rfl, rfl⟩, gd_4 58 ⟨rfl, rfl⟩, by decide +kernel, by decide +kernel, by decide +kernel⟩
set_option maxRecDepth 100000 in
theorem mi_X10_learner : MI yX10_learner := ⟨gd_4 56 ⟨rfl, rfl⟩, gd_4 57 ⟨rfl, rfl⟩⟩
set_option maxRecDepth 100000 in
theorem mb_X10_looser : MB yX10_looser cX10_looser 3 (some .int) 2 := ⟨gd_1 1 ⟨rfl, rfl⟩, gd_4 175 ⟨rfl, rfl⟩, by decide +kernel, by decide +kernel, by decide +kernel⟩
set_option maxRecDepth 100000 in
theorem mi_X10_looser : MI yX10_looser := ⟨gd_4 173 ⟨rfl, rfl⟩, gd_4 174 ⟨rfl, rfl⟩⟩
set_option maxRecDepth 100000 in
theorem mb_X10_move : MB yX10_move cX10_move 4 (some .int) 1 := ⟨gd_1 1 ⟨rfl, rfl⟩, gd_3 107 ⟨rfl, rfl⟩, by decide +kernel, by decide +kernel, by decide +kernel⟩
set_option maxRecDepth 100000 in
theorem mi_X10_move : MI yX10_move := ⟨gd_3 105 ⟨rfl, rfl⟩, gd_3 106 ⟨rfl, rfl⟩⟩
set_option maxRecDepth 100000 in
theorem mb_X10_newRate : MB yX10_newRate cX10_newRate 3 (some .int) 2 := ⟨gd_1 1 ⟨rfl, rfl⟩, gd_3 51 ⟨rfl, rfl⟩, by decide +kernel, by decide +kernel, by decide +kernel⟩
set_option maxRecDepth 100000 in
theorem mi_X10_newRate : MI yX10_newRate := ⟨gd_3 50 ⟨rfl, rfl⟩, gd_p 4 ⟨rfl, rfl⟩⟩
set_option maxRecDepth 100000 in
theorem mb_X10_normal : MB yX10_normal cX10_normal 2 (some .int) 1 := ⟨gd_1 1 ⟨rfl, rfl⟩, gd_2 197 ⟨rfl, rfl⟩, by decide +kernel, by decide +kernel, by decide +kernel⟩
set_option maxRecDepth 100000 in
theorem mi_X10_normal : MI yX10_normal := ⟨gd_2 195 ⟨rfl, rfl⟩, gd_2 196 ⟨rfl, rfl⟩⟩
set_option maxRecDepth 100000 in
theorem mb_X10_of : MB yX10_of cX10_of 3 (some .int) 2 := ⟨gd_1 1 ⟨rfl, rfl⟩, gd_2 213 ⟨rfl, rfl⟩, by decide +kernel, by decide +kernel, by decide +kernel⟩
set_option maxRecDepth 100000 in
theorem mi_X10_of : MI yX10_of := ⟨gd_2 211 ⟨rfl, rfl⟩, gd_2 212 ⟨rfl, rfl⟩⟩
set_option maxRecDepth 100000 in
theorem mb_X10_orNone : MB yX10_orNone cX10_orNone 2 (some .int) 1 := ⟨gd_1 1 ⟨rfl, rfl⟩, gd_4 140 ⟨rfl, rfl⟩, by decide +kernel, by decide +kernel, by decide +kernel⟩
set_option maxRecDepth 100000 in
theorem mi_X10_orNone : MI yX10_orNone := ⟨gd_4 139 ⟨rfl, rfl⟩, gd_p 15 ⟨rfl, rfl⟩⟩
set_option maxRecDepth 100000 in
theorem mb_X10_order : MB yX10_order cX10_order 2 (some .int) 1 := ⟨gd_1 1 ⟨rfl, rfl⟩, gd_4 187 ⟨rfl, rfl⟩, by decide +kernel, by decide +kernel, by decide +kernel⟩
set_option maxRecDepth 100000 in
theorem mi_X10_order : MI yX10_order := ⟨gd_4 185 ⟨rfl, rfl⟩, gd_4 186 ⟨rfl, rfl⟩⟩
set_option maxRecDepth 100000 in
theorem mb_X10_part : MB yX10_part cX10_part 4 (some .int) 3 := ⟨gd_1 1 ⟨rfl, rfl⟩, gd_3 18 ⟨rfl, rfl⟩, by decide +kernel, by decide +kernel, by decide +kernel⟩
set_option maxRecDepth 100000 in
theorem mi_X10_part : MI yX10_part := ⟨gd_3 16 ⟨rfl, rfl⟩, gd_3 17 ⟨rfl, rfl⟩⟩
set_option maxRecDepth 100000 in
theorem mb_X10_pay : MB yX10_pay cX10_pay 4 (some .int) 3 := ⟨gd_1 1 ⟨rfl, rfl⟩, gd_4 89 ⟨rfl, rfl⟩, by decide +kernel, by decide +kernel, by decide +kernel⟩
set_option maxRecDepth 100000 in
theorem mi_X10_pay : MI yX10_pay := ⟨gd_4 87 ⟨rfl, rfl⟩, gd_4 88 ⟨rfl, rfl⟩⟩
set_option maxRecDepth 100000 in
theorem mb_X10_pool : MB yX10_pool cX10_pool 4 (some .int) 3 := ⟨gd_1 1 ⟨rfl, rfl⟩, gd_4 128 ⟨rfl, rfl⟩, by decide +kernel, by decide +kernel, by decide +kernel⟩
set_option maxRecDepth 100000 in
theorem mi_X10_pool : MI yX10_pool := ⟨gd_4 126 ⟨rfl, rfl⟩, gd_4 127 ⟨rfl, rfl⟩⟩
set_option maxRecDepth 100000 in
theorem mb_X10_rate : MB yX10_rate cX10_rate 4 (some .int) 2 := ⟨gd_1 1 ⟨rfl, rfl⟩, gd_3 124 ⟨rfl, rfl⟩, by decide +kernel, by decide +kernel, by decide +kernel⟩
set_option maxRecDepth 100000 in
theorem mi_X10_rate : MI yX10_rate := ⟨gd_3 122 ⟨rfl, rfl⟩, gd_3 123 ⟨rfl, rfl⟩⟩
set_option maxRecDepth 100000 in
theorem mb_X10_read : MB yX10_read cX10_read 1 (some .int) 0 := ⟨gd_1 1 ⟨rfl, rfl⟩, gd_3 160 ⟨rfl, rfl⟩, by decide +kernel, by decide +kernel, by decide +kernel⟩
set_option maxRecDepth 100000 in
theorem mi_X10_read : MI yX10_read := ⟨gd_3 158 ⟨rfl, rfl⟩, gd_3 159 ⟨rfl, rfl⟩⟩
set_option maxRecDepth 100000 in
theorem mb_X10_rule : MB yX10_rule cX10_rule 2 (some .int) 1 := ⟨gd_1 1 ⟨rfl, rfl⟩, gd_4 18 ⟨rfl, rfl⟩, by decide +kernel, by decide +kernel, by decide +kernel⟩
set_option maxRecDepth 100000 in
theorem mi_X10_rule : MI yX10_rule := ⟨gd_4 16 ⟨rfl, rfl⟩, gd_4 17 ⟨rfl, rfl⟩⟩
set_option maxRecDepth 100000 in
theorem mb_X10_set : MB yX10_set cX10_set 2 (some .int) 1 := ⟨gd_1 1 ⟨rfl, rfl⟩, gd_3 43 ⟨rfl, rfl⟩, by decide +kernel, by decide +kernel, by decide +kernel⟩
set_option maxRecDepth 100000 in
theorem mi_X10_set : MI yX10_set := ⟨gd_3 41 ⟨rfl, rfl⟩, gd_3 42 ⟨rfl, rfl⟩⟩
set_option maxRecDepth 100000 in
theorem mb_X10_slow : MB yX10_slow cX10_slow 3 (some .int) 2 := ⟨gd_1 1 ⟨rfl, rfl⟩, gd_4 208 ⟨rfl, rfl⟩, by decide +kernel, by decide +kernel, by decide +kernel⟩
set_option maxRecDepth 100000 in
theorem mi_X10_slow : MI yX10_slow := ⟨gd_4 206 ⟨rfl, rfl⟩, gd_4 207 ⟨rfl, rfl⟩⟩
set_option maxRecDepth 100000 in
theorem mb_X10_tell : MB yX10_tell cX10_tell 2 (some .int) 1 := ⟨gd_1 1 ⟨rfl, rfl⟩, gd_5 14 ⟨rfl, rfl⟩, by decide +kernel, by decide +kernel, by decide +kernel⟩
set_option maxRecDepth 100000 in
theorem mi_X10_tell : MI yX10_tell := ⟨gd_5 12 ⟨rfl, rfl⟩, gd_5 13 ⟨rfl, rfl⟩⟩
set_option maxRecDepth 100000 in
theorem mb_X10_wait : MB yX10_wait cX10_wait 5 (some .int) 4 := ⟨gd_1 1 ⟨rfl, rfl⟩, gd_4 43 ⟨rfl, rfl⟩, by decide +kernel, by decide +kernel, by decide +kernel⟩
set_option maxRecDepth 100000 in
theorem mi_X10_wait : MI yX10_wait := ⟨gd_4 41 ⟨rfl, rfl⟩, gd_4 42 ⟨rfl, rfl⟩⟩
set_option maxRecDepth 100000 in
theorem mb_X10_week : MB yX10_week cX10_week 3 (some .int) 1 := ⟨gd_1 1 ⟨rfl, rfl⟩, gd_3 144 ⟨rfl, rfl⟩, by decide +kernel, by decide +kernel, by decide +kernel⟩
set_option maxRecDepth 100000 in
theorem mi_X10_week : MI yX10_week := ⟨gd_3 142 ⟨rfl, rfl⟩, gd_3 143 ⟨rfl, rfl⟩⟩
set_option maxRecDepth 100000 in
theorem mb_X10_work : MB yX10_work cX10_work 5 (some .int) 4 := ⟨gd_1 1 ⟨rfl, rfl⟩, gd_4 22 ⟨rfl, rfl⟩, by decide +kernel, by decide +kernel, by decide +kernel⟩
set_option maxRecDepth 100000 in
theorem mi_X10_work : MI yX10_work := ⟨gd_4 20 ⟨rfl, rfl⟩, gd_4 21 ⟨rfl, rfl⟩⟩
set_option maxRecDepth 100000 in
theorem mb_X10_worth : MB yX10_worth cX10_worth 5 (some .int) 3 := ⟨gd_1 1 ⟨rfl, rfl⟩, gd_3 139 ⟨rfl, rfl⟩, by decide +kernel, by decide +kernel, by decide +kernel⟩
set_option maxRecDepth 100000 in
theorem mi_X10_worth : MI yX10_worth := ⟨gd_3 137 ⟨rfl, rfl⟩, gd_3 138 ⟨rfl, rfl⟩⟩
set_option maxRecDepth 100000 in
theorem mb_X11_allow : MB yX11_allow cX11_allow 3 (some .int) 2 := ⟨gd_1 13 ⟨rfl, rfl⟩, gd_5 229 ⟨rfl, rfl⟩, by decide +kernel, by decide +kernel, by decide +kernel⟩
set_option maxRecDepth 100000 in
theorem mi_X11_allow : MI yX11_allow := ⟨gd_5 227 ⟨rfl, rfl⟩, gd_5 228 ⟨rfl, rfl⟩⟩
set_option maxRecDepth 100000 in
theorem mb_X11_allowanceOf : MB yX11_allowanceOf cX11_allowanceOf 2 (some .int) 1 := ⟨gd_1 13 ⟨rfl, rfl⟩, gd_5 225 ⟨rfl, rfl⟩, by decide +kernel, by decide +kernel, by decide +kernel⟩
set_option maxRecDepth 100000 in
theorem mi_X11_allowanceOf : MI yX11_allowanceOf := ⟨gd_5 224 ⟨rfl, rfl⟩, gd_p 25 ⟨rfl, rfl⟩⟩
set_option maxRecDepth 100000 in
theorem mb_X11_as : MB yX11_as cX11_as 3 (some .int) 2 := ⟨gd_1 13 ⟨rfl, rfl⟩, gd_5 217 ⟨rfl, rfl⟩, by decide +kernel, by decide +kernel, by decide +kernel⟩
set_option maxRecDepth 100000 in
theorem mi_X11_as : MI yX11_as := ⟨gd_5 215 ⟨rfl, rfl⟩, gd_5 216 ⟨rfl, rfl⟩⟩
set_option maxRecDepth 100000 in
theorem mb_X11_cause : MB yX11_cause cX11_cause 4 (some .int) 1 := ⟨gd_1 13 ⟨rfl, rfl⟩, gd_6 149 ⟨rfl, rfl⟩, by decide +kernel, by decide +kernel, by decide +kernel⟩
set_option maxRecDepth 100000 in
theorem mi_X11_cause : MI yX11_cause := ⟨gd_6 147 ⟨rfl, rfl⟩, gd_6 148 ⟨rfl, rfl⟩⟩
set_option maxRecDepth 100000 in
theorem mb_X11_change : MB yX11_change cX11_change 5 (some .int) 1 := ⟨gd_1 13 ⟨rfl, rfl⟩, gd_6 64 ⟨rfl, rfl⟩, by decide +kernel, by decide +kernel, by decide +kernel⟩
set_option maxRecDepth 100000 in
theorem mi_X11_change : MI yX11_change := ⟨gd_6 62 ⟨rfl, rfl⟩, gd_6 63 ⟨rfl, rfl⟩⟩
set_option maxRecDepth 100000 in
theorem mb_X11_check : MB yX11_check cX11_check 4 (some .int) 1 := ⟨gd_1 13 ⟨rfl, rfl⟩, gd_6 189 ⟨rfl, rfl⟩, by decide +kernel, by decide +kernel, by decide +kernel⟩
set_option maxRecDepth 100000 in
theorem mi_X11_check : MI yX11_check := ⟨gd_6 187 ⟨rfl, rfl⟩, gd_6 188 ⟨rfl, rfl⟩⟩
set_option maxRecDepth 100000 in
theorem mb_X11_count : MB yX11_count cX11_count 2 (some .int) 1 := ⟨gd_1 13 ⟨rfl, rfl⟩, gd_6 193 ⟨rfl, rfl⟩, by decide +kernel, by decide +kernel, by decide +kernel⟩
set_option maxRecDepth 100000 in
theorem mi_X11_count : MI yX11_count := ⟨gd_6 191 ⟨rfl, rfl⟩, gd_6 192 ⟨rfl, rfl⟩⟩
set_option maxRecDepth 100000 in
theorem mb_X11_cycle : MB yX11_cycle cX11_cycle 5 (some .int) 4 := ⟨gd_1 13 ⟨rfl, rfl⟩, gd_6 8 ⟨rfl, rfl⟩, by decide +kernel, by decide +kernel, by decide +kernel⟩
set_option maxRecDepth 100000 in
theorem mi_X11_cycle : MI yX11_cycle := ⟨gd_6 6 ⟨rfl, rfl⟩, gd_6 7 ⟨rfl, rfl⟩⟩
set_option maxRecDepth 100000 in
theorem mb_X11_cyclesOf : MB yX11_cyclesOf cX11_cyclesOf 4 (some .int) 1 := ⟨gd_1 13 ⟨rfl, rfl⟩, gd_6 24 ⟨rfl, rfl⟩, by decide +kernel, by decide +kernel, by decide +kernel⟩
set_option maxRecDepth 100000 in
theorem mi_X11_cyclesOf : MI yX11_cyclesOf := ⟨gd_6 23 ⟨rfl, rfl⟩, gd_p 28 ⟨rfl, rfl⟩⟩
set_option maxRecDepth 100000 in
theorem mb_X11_earned : MB yX11_earned cX11_earned 2 (some .int) 1 := ⟨gd_1 13 ⟨rfl, rfl⟩, gd_6 133 ⟨rfl, rfl⟩, by decide +kernel, by decide +kernel, by decide +kernel⟩
set_option maxRecDepth 100000 in
theorem mi_X11_earned : MI yX11_earned := ⟨gd_6 131 ⟨rfl, rfl⟩, gd_6 132 ⟨rfl, rfl⟩⟩
set_option maxRecDepth 100000 in
theorem mb_X11_earnedBy : MB yX11_earnedBy cX11_earnedBy 6 (some .int) 1 := ⟨gd_1 13 ⟨rfl, rfl⟩, gd_6 137 ⟨rfl, rfl⟩, by decide +kernel, by decide +kernel, by decide +kernel⟩
set_option maxRecDepth 100000 in
theorem mi_X11_earnedBy : MI yX11_earnedBy := ⟨gd_6 136 ⟨rfl, rfl⟩, gd_p 39 ⟨rfl, rfl⟩⟩
set_option maxRecDepth 100000 in
theorem mb_X11_efficiency : MB yX11_efficiency cX11_efficiency 4 (some .int) 2 := ⟨gd_1 13 ⟨rfl, rfl⟩, gd_6 157 ⟨rfl, rfl⟩, by decide +kernel, by decide +kernel, by decide +kernel⟩
set_option maxRecDepth 100000 in
theorem mi_X11_efficiency : MI yX11_efficiency := ⟨gd_6 155 ⟨rfl, rfl⟩, gd_6 156 ⟨rfl, rfl⟩⟩
set_option maxRecDepth 100000 in
theorem mb_X11_efficiencyOf : MB yX11_efficiencyOf cX11_efficiencyOf 8 (some .int) 2 := ⟨gd_1 13 ⟨rfl, rfl⟩, gd_6 161 ⟨rfl, rfl⟩, by decide +kernel, by decide +kernel, by decide +kernel⟩
set_option maxRecDepth 100000 in
theorem mi_X11_efficiencyOf : MI yX11_efficiencyOf := ⟨gd_6 160 ⟨rfl, rfl⟩, gd_p 41 ⟨rfl, rfl⟩⟩
set_option maxRecDepth 100000 in
theorem mb_X11_element : MB yX11_element cX11_element 2 (some .int) 1 := ⟨gd_1 13 ⟨rfl, rfl⟩, gd_5 205 ⟨rfl, rfl⟩, by decide +kernel, by decide +kernel, by decide +kernel⟩
set_option maxRecDepth 100000 in
theorem mi_X11_element : MI yX11_element := ⟨gd_5 203 ⟨rfl, rfl⟩, gd_5 204 ⟨rfl, rfl⟩⟩
set_option maxRecDepth 100000 in
theorem mb_X11_feed : MB yX11_feed cX11_feed 2 (some .int) 1 := ⟨gd_1 13 ⟨rfl, rfl⟩, gd_6 91 ⟨rfl, rfl⟩, by decide +kernel, by decide +kernel, by decide +kernel⟩
set_option maxRecDepth 100000 in
theorem mi_X11_feed : MI yX11_feed := ⟨gd_6 89 ⟨rfl, rfl⟩, gd_6 90 ⟨rfl, rfl⟩⟩
set_option maxRecDepth 100000 in
theorem mb_X11_film : MB yX11_film cX11_film 4 (some .int) 3 := ⟨gd_1 13 ⟨rfl, rfl⟩, gd_5 233 ⟨rfl, rfl⟩, by decide +kernel, by decide +kernel, by decide +kernel⟩
set_option maxRecDepth 100000 in
theorem mi_X11_film : MI yX11_film := ⟨gd_5 231 ⟨rfl, rfl⟩, gd_5 232 ⟨rfl, rfl⟩⟩
set_option maxRecDepth 100000 in
theorem mb_X11_finding : MB yX11_finding cX11_finding 2 (some .int) 1 := ⟨gd_1 13 ⟨rfl, rfl⟩, gd_5 212 ⟨rfl, rfl⟩, by decide +kernel, by decide +kernel, by decide +kernel⟩
set_option maxRecDepth 100000 in
theorem mi_X11_finding : MI yX11_finding := ⟨gd_5 211 ⟨rfl, rfl⟩, gd_p 23 ⟨rfl, rfl⟩⟩
set_option maxRecDepth 100000 in
theorem mb_X11_forceOf : MB yX11_forceOf cX11_forceOf 5 (some .int) 2 := ⟨gd_1 13 ⟨rfl, rfl⟩, gd_6 79 ⟨rfl, rfl⟩, by decide +kernel, by decide +kernel, by decide +kernel⟩
set_option maxRecDepth 100000 in
theorem mi_X11_forceOf : MI yX11_forceOf := ⟨gd_6 78 ⟨rfl, rfl⟩, gd_p 35 ⟨rfl, rfl⟩⟩
set_option maxRecDepth 100000 in
theorem mb_X11_found : MB yX11_found cX11_found 2 (some .int) 1 := ⟨gd_1 13 ⟨rfl, rfl⟩, gd_6 197 ⟨rfl, rfl⟩, by decide +kernel, by decide +kernel, by decide +kernel⟩
set_option maxRecDepth 100000 in
theorem mi_X11_found : MI yX11_found := ⟨gd_6 195 ⟨rfl, rfl⟩, gd_6 196 ⟨rfl, rfl⟩⟩
set_option maxRecDepth 100000 in
theorem mb_X11_habit : MB yX11_habit cX11_habit 2 (some .int) 1 := ⟨gd_1 13 ⟨rfl, rfl⟩, gd_6 0 ⟨rfl, rfl⟩, by decide +kernel, by decide +kernel, by decide +kernel⟩
set_option maxRecDepth 100000 in
theorem mi_X11_habit : MI yX11_habit := ⟨gd_5 238 ⟨rfl, rfl⟩, gd_5 239 ⟨rfl, rfl⟩⟩
set_option maxRecDepth 100000 in
theorem mb_X11_habitOf : MB yX11_habitOf cX11_habitOf 5 (some .int) 1 := ⟨gd_1 13 ⟨rfl, rfl⟩, gd_6 4 ⟨rfl, rfl⟩, by decide +kernel, by decide +kernel, by decide +kernel⟩
set_option maxRecDepth 100000 in
theorem mi_X11_habitOf : MI yX11_habitOf := ⟨gd_6 3 ⟨rfl, rfl⟩, gd_p 26 ⟨rfl, rfl⟩⟩
set_option maxRecDepth 100000 in
theorem mb_X11_here : MB yX11_here cX11_here 1 (some .int) 0 := ⟨gd_1 13 ⟨rfl, rfl⟩, gd_6 109 ⟨rfl, rfl⟩, by decide +kernel, by decide +kernel, by decide +kernel⟩
set_option maxRecDepth 100000 in
theorem mi_X11_here : MI yX11_here := ⟨gd_6 108 ⟨rfl, rfl⟩, gd_p 38 ⟨rfl, rfl⟩⟩
set_option maxRecDepth 100000 in
theorem mb_X11_init : MB yX11_init cX11_init 2 none 0 := ⟨gd_1 13 ⟨rfl, rfl⟩, gd_5 52 ⟨rfl, rfl⟩, by decide +kernel, by decide +kernel, by decide +kernel⟩
set_option maxRecDepth 100000 in
theorem mb_X11_isElement : MB yX11_isElement cX11_isElement 2 (some .boolean) 1 := ⟨gd_1 13 ⟨rfl, rfl⟩, gd_5 221 ⟨rfl, rfl⟩, by decide +kernel, by decide +kernel, by decide +kernel⟩
set_option maxRecDepth 100000 in
theorem mi_X11_isElement : MI yX11_isElement := ⟨gd_5 220 ⟨rfl, rfl⟩, gd_p 24 ⟨rfl, rfl⟩⟩
set_option maxRecDepth 100000 in
theorem mb_X11_isIn : MB yX11_isIn cX11_isIn 3 (some .boolean) 3 := ⟨gd_1 13 ⟨rfl, rfl⟩, gd_5 208 ⟨rfl, rfl⟩, by decide +kernel, by decide +kernel, by decide +kernel⟩
set_option maxRecDepth 100000 in
theorem ms_X11_isIn : Cond.static yX11_isIn ∈ gd := gd_5 207 ⟨rfl, rfl⟩
set_option maxRecDepth 100000 in
theorem mb_X11_isJob : MB yX11_isJob cX11_isJob 2 (some .boolean) 1 := ⟨gd_1 13 ⟨rfl, rfl⟩, gd_6 44 ⟨rfl, rfl⟩, by decide +kernel, by decide +kernel, by decide +kernel⟩
set_option maxRecDepth 100000 in
theorem mi_X11_isJob : MI yX11_isJob := ⟨gd_6 43 ⟨rfl, rfl⟩, gd_p 31 ⟨rfl, rfl⟩⟩
set_option maxRecDepth 100000 in
theorem mb_X11_isLooser : MB yX11_isLooser cX11_isLooser 8 (some .boolean) 2 := ⟨gd_1 13 ⟨rfl, rfl⟩, gd_6 170 ⟨rfl, rfl⟩, by decide +kernel, by decide +kernel, by decide +kernel⟩
set_option maxRecDepth 100000 in
theorem mi_X11_isLooser : MI yX11_isLooser := ⟨gd_6 169 ⟨rfl, rfl⟩, gd_p 42 ⟨rfl, rfl⟩⟩
set_option maxRecDepth 100000 in
theorem mb_X11_isPace : MB yX11_isPace cX11_isPace 1 (some .boolean) 1 := ⟨gd_1 13 ⟨rfl, rfl⟩, gd_5 236 ⟨rfl, rfl⟩, by decide +kernel, by decide +kernel, by decide +kernel⟩
set_option maxRecDepth 100000 in
theorem ms_X11_isPace : Cond.static yX11_isPace ∈ gd := gd_5 235 ⟨rfl, rfl⟩
set_option maxRecDepth 100000 in
theorem mb_X11_isWeek : MB yX11_isWeek cX11_isWeek 1 (some .boolean) 1 := ⟨gd_1 13 ⟨rfl, rfl⟩, gd_6 75 ⟨rfl, rfl⟩, by decide +kernel, by decide +kernel, by decide +kernel⟩
set_option maxRecDepth 100000 in
theorem ms_X11_isWeek : Cond.static yX11_isWeek ∈ gd := gd_6 74 ⟨rfl, rfl⟩
set_option maxRecDepth 100000 in
theorem mb_X11_isWorker : MB yX11_isWorker cX11_isWorker 1 (some .boolean) 1 := ⟨gd_1 13 ⟨rfl, rfl⟩, gd_6 120 ⟨rfl, rfl⟩, by decide +kernel, by decide +kernel, by decide +kernel⟩
set_option maxRecDepth 100000 in
theorem ms_X11_isWorker : Cond.static yX11_isWorker ∈ gd := gd_6 119 ⟨rfl, rfl⟩
set_option maxRecDepth 100000 in
theorem mb_X11_job : MB yX11_job cX11_job 1 (some .int) 0 := ⟨gd_1 13 ⟨rfl, rfl⟩, gd_6 36 ⟨rfl, rfl⟩, by decide +kernel, by decide +kernel, by decide +kernel⟩
set_option maxRecDepth 100000 in
theorem mi_X11_job : MI yX11_job := ⟨gd_6 34 ⟨rfl, rfl⟩, gd_6 35 ⟨rfl, rfl⟩⟩
set_option maxRecDepth 100000 in
theorem mb_X11_keptOf : MB yX11_keptOf cX11_keptOf 11 (some .int) 2 := ⟨gd_1 13 ⟨rfl, rfl⟩, gd_6 32 ⟨rfl, rfl⟩, by decide +kernel, by decide +kernel, by decide +kernel⟩
set_option maxRecDepth 100000 in
theorem mi_X11_keptOf : MI yX11_keptOf := ⟨gd_6 31 ⟨rfl, rfl⟩, gd_p 30 ⟨rfl, rfl⟩⟩
set_option maxRecDepth 100000 in
theorem mb_X11_latestOf : MB yX11_latestOf cX11_latestOf 4 (some .int) 1 := ⟨gd_1 13 ⟨rfl, rfl⟩, gd_6 48 ⟨rfl, rfl⟩, by decide +kernel, by decide +kernel, by decide +kernel⟩
set_option maxRecDepth 100000 in
theorem mi_X11_latestOf : MI yX11_latestOf := ⟨gd_6 47 ⟨rfl, rfl⟩, gd_p 32 ⟨rfl, rfl⟩⟩
set_option maxRecDepth 100000 in
theorem mb_X11_learner : MB yX11_learner cX11_learner 5 (some .int) 3 := ⟨gd_1 13 ⟨rfl, rfl⟩, gd_6 129 ⟨rfl, rfl⟩, by decide +kernel, by decide +kernel, by decide +kernel⟩
set_option maxRecDepth 100000 in
theorem mi_X11_learner : MI yX11_learner := ⟨gd_6 127 ⟨rfl, rfl⟩, gd_6 128 ⟨rfl, rfl⟩⟩
set_option maxRecDepth 100000 in
theorem mb_X11_looser : MB yX11_looser cX11_looser 3 (some .int) 2 := ⟨gd_1 13 ⟨rfl, rfl⟩, gd_6 166 ⟨rfl, rfl⟩, by decide +kernel, by decide +kernel, by decide +kernel⟩
set_option maxRecDepth 100000 in
theorem mi_X11_looser : MI yX11_looser := ⟨gd_6 164 ⟨rfl, rfl⟩, gd_6 165 ⟨rfl, rfl⟩⟩
set_option maxRecDepth 100000 in
theorem mb_X11_make : MB yX11_make cX11_make 6 (some .int) 3 := ⟨gd_1 13 ⟨rfl, rfl⟩, gd_6 56 ⟨rfl, rfl⟩, by decide +kernel, by decide +kernel, by decide +kernel⟩
set_option maxRecDepth 100000 in
theorem mi_X11_make : MI yX11_make := ⟨gd_6 55 ⟨rfl, rfl⟩, gd_p 33 ⟨rfl, rfl⟩⟩
set_option maxRecDepth 100000 in
theorem mb_X11_move : MB yX11_move cX11_move 6 (some .int) 1 := ⟨gd_1 13 ⟨rfl, rfl⟩, gd_6 68 ⟨rfl, rfl⟩, by decide +kernel, by decide +kernel, by decide +kernel⟩
set_option maxRecDepth 100000 in
theorem mi_X11_move : MI yX11_move := ⟨gd_6 66 ⟨rfl, rfl⟩, gd_6 67 ⟨rfl, rfl⟩⟩
set_option maxRecDepth 100000 in
theorem mb_X11_normal : MB yX11_normal cX11_normal 2 (some .int) 1 := ⟨gd_1 13 ⟨rfl, rfl⟩, gd_6 12 ⟨rfl, rfl⟩, by decide +kernel, by decide +kernel, by decide +kernel⟩
set_option maxRecDepth 100000 in
theorem mi_X11_normal : MI yX11_normal := ⟨gd_6 10 ⟨rfl, rfl⟩, gd_6 11 ⟨rfl, rfl⟩⟩
set_option maxRecDepth 100000 in
theorem mb_X11_normalOf : MB yX11_normalOf cX11_normalOf 3 (some .int) 1 := ⟨gd_1 13 ⟨rfl, rfl⟩, gd_6 16 ⟨rfl, rfl⟩, by decide +kernel, by decide +kernel, by decide +kernel⟩
set_option maxRecDepth 100000 in
theorem mi_X11_normalOf : MI yX11_normalOf := ⟨gd_6 15 ⟨rfl, rfl⟩, gd_p 27 ⟨rfl, rfl⟩⟩
set_option maxRecDepth 100000 in
theorem mb_X11_of : MB yX11_of cX11_of 3 (some .int) 2 := ⟨gd_1 13 ⟨rfl, rfl⟩, gd_6 20 ⟨rfl, rfl⟩, by decide +kernel, by decide +kernel, by decide +kernel⟩
set_option maxRecDepth 100000 in
theorem mi_X11_of : MI yX11_of := ⟨gd_6 18 ⟨rfl, rfl⟩, gd_6 19 ⟨rfl, rfl⟩⟩
set_option maxRecDepth 100000 in
theorem mb_X11_ones : MB yX11_ones cX11_ones 3 (some .int) 1 := ⟨gd_1 13 ⟨rfl, rfl⟩, gd_6 173 ⟨rfl, rfl⟩, by decide +kernel, by decide +kernel, by decide +kernel⟩
set_option maxRecDepth 100000 in
theorem ms_X11_ones : Cond.static yX11_ones ∈ gd := gd_6 172 ⟨rfl, rfl⟩
set_option maxRecDepth 100000 in
theorem mb_X11_order : MB yX11_order cX11_order 5 (some .int) 1 := ⟨gd_1 13 ⟨rfl, rfl⟩, gd_6 177 ⟨rfl, rfl⟩, by decide +kernel, by decide +kernel, by decide +kernel⟩
set_option maxRecDepth 100000 in
theorem mi_X11_order : MI yX11_order := ⟨gd_6 175 ⟨rfl, rfl⟩, gd_6 176 ⟨rfl, rfl⟩⟩
set_option maxRecDepth 100000 in
theorem mb_X11_part : MB yX11_part cX11_part 6 (some .int) 3 := ⟨gd_1 13 ⟨rfl, rfl⟩, gd_6 40 ⟨rfl, rfl⟩, by decide +kernel, by decide +kernel, by decide +kernel⟩
set_option maxRecDepth 100000 in
theorem mi_X11_part : MI yX11_part := ⟨gd_6 38 ⟨rfl, rfl⟩, gd_6 39 ⟨rfl, rfl⟩⟩
set_option maxRecDepth 100000 in
theorem mb_X11_pay : MB yX11_pay cX11_pay 4 (some .int) 3 := ⟨gd_1 13 ⟨rfl, rfl⟩, gd_6 141 ⟨rfl, rfl⟩, by decide +kernel, by decide +kernel, by decide +kernel⟩
set_option maxRecDepth 100000 in
theorem mi_X11_pay : MI yX11_pay := ⟨gd_6 139 ⟨rfl, rfl⟩, gd_6 140 ⟨rfl, rfl⟩⟩
set_option maxRecDepth 100000 in
theorem mb_X11_payOf : MB yX11_payOf cX11_payOf 9 (some .int) 3 := ⟨gd_1 13 ⟨rfl, rfl⟩, gd_6 145 ⟨rfl, rfl⟩, by decide +kernel, by decide +kernel, by decide +kernel⟩
set_option maxRecDepth 100000 in
theorem mi_X11_payOf : MI yX11_payOf := ⟨gd_6 144 ⟨rfl, rfl⟩, gd_p 40 ⟨rfl, rfl⟩⟩
set_option maxRecDepth 100000 in
theorem mb_X11_pool : MB yX11_pool cX11_pool 16 (some .int) 3 := ⟨gd_1 13 ⟨rfl, rfl⟩, gd_6 153 ⟨rfl, rfl⟩, by decide +kernel, by decide +kernel, by decide +kernel⟩
set_option maxRecDepth 100000 in
theorem mi_X11_pool : MI yX11_pool := ⟨gd_6 151 ⟨rfl, rfl⟩, gd_6 152 ⟨rfl, rfl⟩⟩
set_option maxRecDepth 100000 in
theorem mb_X11_rate : MB yX11_rate cX11_rate 4 (some .int) 2 := ⟨gd_1 13 ⟨rfl, rfl⟩, gd_6 72 ⟨rfl, rfl⟩, by decide +kernel, by decide +kernel, by decide +kernel⟩
set_option maxRecDepth 100000 in
theorem mi_X11_rate : MI yX11_rate := ⟨gd_6 70 ⟨rfl, rfl⟩, gd_6 71 ⟨rfl, rfl⟩⟩
set_option maxRecDepth 100000 in
theorem mb_X11_read : MB yX11_read cX11_read 4 (some .int) 0 := ⟨gd_1 13 ⟨rfl, rfl⟩, gd_6 95 ⟨rfl, rfl⟩, by decide +kernel, by decide +kernel, by decide +kernel⟩
set_option maxRecDepth 100000 in
theorem mi_X11_read : MI yX11_read := ⟨gd_6 93 ⟨rfl, rfl⟩, gd_6 94 ⟨rfl, rfl⟩⟩
set_option maxRecDepth 100000 in
theorem mb_X11_readAll : MB yX11_readAll cX11_readAll 4 (some .int) 0 := ⟨gd_1 13 ⟨rfl, rfl⟩, gd_6 99 ⟨rfl, rfl⟩, by decide +kernel, by decide +kernel, by decide +kernel⟩
set_option maxRecDepth 100000 in
theorem mi_X11_readAll : MI yX11_readAll := ⟨gd_6 98 ⟨rfl, rfl⟩, gd_p 36 ⟨rfl, rfl⟩⟩
set_option maxRecDepth 100000 in
theorem mb_X11_rule : MB yX11_rule cX11_rule 2 (some .int) 1 := ⟨gd_1 13 ⟨rfl, rfl⟩, gd_6 113 ⟨rfl, rfl⟩, by decide +kernel, by decide +kernel, by decide +kernel⟩
set_option maxRecDepth 100000 in
theorem mi_X11_rule : MI yX11_rule := ⟨gd_6 111 ⟨rfl, rfl⟩, gd_6 112 ⟨rfl, rfl⟩⟩
set_option maxRecDepth 100000 in
theorem mb_X11_set : MB yX11_set cX11_set 3 (some .int) 1 := ⟨gd_1 13 ⟨rfl, rfl⟩, gd_6 52 ⟨rfl, rfl⟩, by decide +kernel, by decide +kernel, by decide +kernel⟩
set_option maxRecDepth 100000 in
theorem mi_X11_set : MI yX11_set := ⟨gd_6 50 ⟨rfl, rfl⟩, gd_6 51 ⟨rfl, rfl⟩⟩
set_option maxRecDepth 100000 in
theorem mb_X11_slow : MB yX11_slow cX11_slow 12 (some .int) 2 := ⟨gd_1 13 ⟨rfl, rfl⟩, gd_6 181 ⟨rfl, rfl⟩, by decide +kernel, by decide +kernel, by decide +kernel⟩
set_option maxRecDepth 100000 in
theorem mi_X11_slow : MI yX11_slow := ⟨gd_6 179 ⟨rfl, rfl⟩, gd_6 180 ⟨rfl, rfl⟩⟩
set_option maxRecDepth 100000 in
theorem mb_X11_standardOf : MB yX11_standardOf cX11_standardOf 3 (some .int) 1 := ⟨gd_1 13 ⟨rfl, rfl⟩, gd_6 28 ⟨rfl, rfl⟩, by decide +kernel, by decide +kernel, by decide +kernel⟩
set_option maxRecDepth 100000 in
theorem mi_X11_standardOf : MI yX11_standardOf := ⟨gd_6 27 ⟨rfl, rfl⟩, gd_p 29 ⟨rfl, rfl⟩⟩
set_option maxRecDepth 100000 in
theorem mb_X11_sumOf : MB yX11_sumOf cX11_sumOf 4 (some .int) 1 := ⟨gd_1 13 ⟨rfl, rfl⟩, gd_6 60 ⟨rfl, rfl⟩, by decide +kernel, by decide +kernel, by decide +kernel⟩
set_option maxRecDepth 100000 in
theorem mi_X11_sumOf : MI yX11_sumOf := ⟨gd_6 59 ⟨rfl, rfl⟩, gd_p 34 ⟨rfl, rfl⟩⟩
set_option maxRecDepth 100000 in
theorem mb_X11_tell : MB yX11_tell cX11_tell 2 (some .int) 1 := ⟨gd_1 13 ⟨rfl, rfl⟩, gd_6 185 ⟨rfl, rfl⟩, by decide +kernel, by decide +kernel, by decide +kernel⟩
set_option maxRecDepth 100000 in
theorem mi_X11_tell : MI yX11_tell := ⟨gd_6 183 ⟨rfl, rfl⟩, gd_6 184 ⟨rfl, rfl⟩⟩
set_option maxRecDepth 100000 in
theorem mb_X11_wait : MB yX11_wait cX11_wait 5 (some .int) 4 := ⟨gd_1 13 ⟨rfl, rfl⟩, gd_6 125 ⟨rfl, rfl⟩, by decide +kernel, by decide +kernel, by decide +kernel⟩
set_option maxRecDepth 100000 in
theorem mi_X11_wait : MI yX11_wait := ⟨gd_6 123 ⟨rfl, rfl⟩, gd_6 124 ⟨rfl, rfl⟩⟩
set_option maxRecDepth 100000 in
theorem mb_X11_week : MB yX11_week cX11_week 3 (some .int) 1 := ⟨gd_1 13 ⟨rfl, rfl⟩, gd_6 87 ⟨rfl, rfl⟩, by decide +kernel, by decide +kernel, by decide +kernel⟩
set_option maxRecDepth 100000 in
theorem mi_X11_week : MI yX11_week := ⟨gd_6 85 ⟨rfl, rfl⟩, gd_6 86 ⟨rfl, rfl⟩⟩
set_option maxRecDepth 100000 in
theorem mb_X11_wordHere : MB yX11_wordHere cX11_wordHere 6 (some .int) 0 := ⟨gd_1 13 ⟨rfl, rfl⟩, gd_6 103 ⟨rfl, rfl⟩, by decide +kernel, by decide +kernel, by decide +kernel⟩
set_option maxRecDepth 100000 in
theorem mi_X11_wordHere : MI yX11_wordHere := ⟨gd_6 102 ⟨rfl, rfl⟩, gd_p 37 ⟨rfl, rfl⟩⟩
set_option maxRecDepth 100000 in
theorem mb_X11_work : MB yX11_work cX11_work 6 (some .int) 4 := ⟨gd_1 13 ⟨rfl, rfl⟩, gd_6 117 ⟨rfl, rfl⟩, by decide +kernel, by decide +kernel, by decide +kernel⟩
set_option maxRecDepth 100000 in
theorem mi_X11_work : MI yX11_work := ⟨gd_6 115 ⟨rfl, rfl⟩, gd_6 116 ⟨rfl, rfl⟩⟩
set_option maxRecDepth 100000 in
theorem mb_X11_worth : MB yX11_worth cX11_worth 5 (some .int) 3 := ⟨gd_1 13 ⟨rfl, rfl⟩, gd_6 83 ⟨rfl, rfl⟩, by decide +kernel, by decide +kernel, by decide +kernel⟩
set_option maxRecDepth 100000 in
theorem mi_X11_worth : MI yX11_worth := ⟨gd_6 81 ⟨rfl, rfl⟩, gd_6 82 ⟨rfl, rfl⟩⟩
set_option maxRecDepth 100000 in
theorem mb_X1_add : MB yX1_add cX1_add 2 (some .int) 1 := ⟨gd_1 2 ⟨rfl, rfl⟩, gd_2 128 ⟨rfl, rfl⟩, by decide +kernel, by decide +kernel, by decide +kernel⟩
set_option maxRecDepth 100000 in
theorem mi_X1_add : MI yX1_add := ⟨gd_2 126 ⟨rfl, rfl⟩, gd_2 127 ⟨rfl, rfl⟩⟩
set_option maxRecDepth 100000 in
theorem mb_X1_allowanceOf : MB yX1_allowanceOf cX1_allowanceOf 2 (some .int) 1 := ⟨gd_1 2 ⟨rfl, rfl⟩, gd_2 146 ⟨rfl, rfl⟩, by decide +kernel, by decide +kernel, by decide +kernel⟩
set_option maxRecDepth 100000 in
theorem mi_X1_allowanceOf : MI yX1_allowanceOf := ⟨gd_2 144 ⟨rfl, rfl⟩, gd_2 145 ⟨rfl, rfl⟩⟩
set_option maxRecDepth 100000 in
theorem mb_X1_has : MB yX1_has cX1_has 2 (some .boolean) 1 := ⟨gd_1 2 ⟨rfl, rfl⟩, gd_2 136 ⟨rfl, rfl⟩, by decide +kernel, by decide +kernel, by decide +kernel⟩
set_option maxRecDepth 100000 in
theorem mi_X1_has : MI yX1_has := ⟨gd_2 134 ⟨rfl, rfl⟩, gd_2 135 ⟨rfl, rfl⟩⟩
set_option maxRecDepth 100000 in
theorem mb_X1_init : MB yX1_init cX1_init 1 none 0 := ⟨gd_1 2 ⟨rfl, rfl⟩, gd_1 31 ⟨rfl, rfl⟩, by decide +kernel, by decide +kernel, by decide +kernel⟩
set_option maxRecDepth 100000 in
theorem mb_X1_isFull : MB yX1_isFull cX1_isFull 1 (some .boolean) 0 := ⟨gd_1 2 ⟨rfl, rfl⟩, gd_2 124 ⟨rfl, rfl⟩, by decide +kernel, by decide +kernel, by decide +kernel⟩
set_option maxRecDepth 100000 in
theorem mi_X1_isFull : MI yX1_isFull := ⟨gd_2 122 ⟨rfl, rfl⟩, gd_2 123 ⟨rfl, rfl⟩⟩
set_option maxRecDepth 100000 in
theorem mb_X1_isKind : MB yX1_isKind cX1_isKind 1 (some .boolean) 1 := ⟨gd_1 2 ⟨rfl, rfl⟩, gd_2 112 ⟨rfl, rfl⟩, by decide +kernel, by decide +kernel, by decide +kernel⟩
set_option maxRecDepth 100000 in
theorem ms_X1_isKind : Cond.static yX1_isKind ∈ gd := gd_2 111 ⟨rfl, rfl⟩
set_option maxRecDepth 100000 in
theorem mb_X1_isUnder : MB yX1_isUnder cX1_isUnder 5 (some .boolean) 2 := ⟨gd_1 2 ⟨rfl, rfl⟩, gd_2 140 ⟨rfl, rfl⟩, by decide +kernel, by decide +kernel, by decide +kernel⟩
set_option maxRecDepth 100000 in
theorem mi_X1_isUnder : MI yX1_isUnder := ⟨gd_2 138 ⟨rfl, rfl⟩, gd_2 139 ⟨rfl, rfl⟩⟩
set_option maxRecDepth 100000 in
theorem mb_X1_kindOf : MB yX1_kindOf cX1_kindOf 2 (some .int) 1 := ⟨gd_1 2 ⟨rfl, rfl⟩, gd_2 217 ⟨rfl, rfl⟩, by decide +kernel, by decide +kernel, by decide +kernel⟩
set_option maxRecDepth 100000 in
theorem mi_X1_kindOf : MI yX1_kindOf := ⟨gd_2 215 ⟨rfl, rfl⟩, gd_2 216 ⟨rfl, rfl⟩⟩
set_option maxRecDepth 100000 in
theorem mb_X1_many : MB yX1_many cX1_many 1 (some .int) 0 := ⟨gd_1 2 ⟨rfl, rfl⟩, gd_5 27 ⟨rfl, rfl⟩, by decide +kernel, by decide +kernel, by decide +kernel⟩
set_option maxRecDepth 100000 in
theorem mi_X1_many : MI yX1_many := ⟨gd_5 25 ⟨rfl, rfl⟩, gd_5 26 ⟨rfl, rfl⟩⟩
set_option maxRecDepth 100000 in
theorem mb_X1_setAllowances : MB yX1_setAllowances cX1_setAllowances 3 none 2 := ⟨gd_1 2 ⟨rfl, rfl⟩, gd_2 155 ⟨rfl, rfl⟩, by decide +kernel, by decide +kernel, by decide +kernel⟩
set_option maxRecDepth 100000 in
theorem mi_X1_setAllowances : MI yX1_setAllowances := ⟨gd_2 153 ⟨rfl, rfl⟩, gd_2 154 ⟨rfl, rfl⟩⟩
set_option maxRecDepth 100000 in
theorem mb_X2_add : MB yX2_add cX2_add 1 (some .int) 0 := ⟨gd_1 4 ⟨rfl, rfl⟩, gd_3 14 ⟨rfl, rfl⟩, by decide +kernel, by decide +kernel, by decide +kernel⟩
set_option maxRecDepth 100000 in
theorem mi_X2_add : MI yX2_add := ⟨gd_3 12 ⟨rfl, rfl⟩, gd_3 13 ⟨rfl, rfl⟩⟩
set_option maxRecDepth 100000 in
theorem mb_X2_addPart : MB yX2_addPart cX2_addPart 5 (some .int) 3 := ⟨gd_1 4 ⟨rfl, rfl⟩, gd_3 39 ⟨rfl, rfl⟩, by decide +kernel, by decide +kernel, by decide +kernel⟩
set_option maxRecDepth 100000 in
theorem mi_X2_addPart : MI yX2_addPart := ⟨gd_3 37 ⟨rfl, rfl⟩, gd_3 38 ⟨rfl, rfl⟩⟩
set_option maxRecDepth 100000 in
theorem mb_X2_clearMarks : MB yX2_clearMarks cX2_clearMarks 3 none 1 := ⟨gd_1 4 ⟨rfl, rfl⟩, gd_3 91 ⟨rfl, rfl⟩, by decide +kernel, by decide +kernel, by decide +kernel⟩
set_option maxRecDepth 100000 in
theorem mi_X2_clearMarks : MI yX2_clearMarks := ⟨gd_3 89 ⟨rfl, rfl⟩, gd_3 90 ⟨rfl, rfl⟩⟩
set_option maxRecDepth 100000 in
theorem mb_X2_elementAt : MB yX2_elementAt cX2_elementAt 3 (some .int) 2 := ⟨gd_1 4 ⟨rfl, rfl⟩, gd_3 64 ⟨rfl, rfl⟩, by decide +kernel, by decide +kernel, by decide +kernel⟩
set_option maxRecDepth 100000 in
theorem mi_X2_elementAt : MI yX2_elementAt := ⟨gd_3 62 ⟨rfl, rfl⟩, gd_3 63 ⟨rfl, rfl⟩⟩
set_option maxRecDepth 100000 in
theorem mb_X2_has : MB yX2_has cX2_has 2 (some .boolean) 1 := ⟨gd_1 4 ⟨rfl, rfl⟩, gd_3 22 ⟨rfl, rfl⟩, by decide +kernel, by decide +kernel, by decide +kernel⟩
set_option maxRecDepth 100000 in
theorem mi_X2_has : MI yX2_has := ⟨gd_3 20 ⟨rfl, rfl⟩, gd_3 21 ⟨rfl, rfl⟩⟩
set_option maxRecDepth 100000 in
theorem mb_X2_init : MB yX2_init cX2_init 1 none 0 := ⟨gd_1 4 ⟨rfl, rfl⟩, gd_1 106 ⟨rfl, rfl⟩, by decide +kernel, by decide +kernel, by decide +kernel⟩
set_option maxRecDepth 100000 in
theorem mb_X2_isFull : MB yX2_isFull cX2_isFull 1 (some .boolean) 0 := ⟨gd_1 4 ⟨rfl, rfl⟩, gd_3 10 ⟨rfl, rfl⟩, by decide +kernel, by decide +kernel, by decide +kernel⟩
set_option maxRecDepth 100000 in
theorem mi_X2_isFull : MI yX2_isFull := ⟨gd_3 8 ⟨rfl, rfl⟩, gd_3 9 ⟨rfl, rfl⟩⟩
set_option maxRecDepth 100000 in
theorem mb_X2_isFullOfParts : MB yX2_isFullOfParts cX2_isFullOfParts 2 (some .boolean) 1 := ⟨gd_1 4 ⟨rfl, rfl⟩, gd_3 35 ⟨rfl, rfl⟩, by decide +kernel, by decide +kernel, by decide +kernel⟩
set_option maxRecDepth 100000 in
theorem mi_X2_isFullOfParts : MI yX2_isFullOfParts := ⟨gd_3 33 ⟨rfl, rfl⟩, gd_3 34 ⟨rfl, rfl⟩⟩
set_option maxRecDepth 100000 in
theorem mb_X2_isMarked : MB yX2_isMarked cX2_isMarked 3 (some .boolean) 2 := ⟨gd_1 4 ⟨rfl, rfl⟩, gd_3 60 ⟨rfl, rfl⟩, by decide +kernel, by decide +kernel, by decide +kernel⟩
set_option maxRecDepth 100000 in
theorem mi_X2_isMarked : MI yX2_isMarked := ⟨gd_3 58 ⟨rfl, rfl⟩, gd_3 59 ⟨rfl, rfl⟩⟩
set_option maxRecDepth 100000 in
theorem mb_X2_many : MB yX2_many cX2_many 1 (some .int) 0 := ⟨gd_1 4 ⟨rfl, rfl⟩, gd_3 99 ⟨rfl, rfl⟩, by decide +kernel, by decide +kernel, by decide +kernel⟩
set_option maxRecDepth 100000 in
theorem mi_X2_many : MI yX2_many := ⟨gd_3 97 ⟨rfl, rfl⟩, gd_3 98 ⟨rfl, rfl⟩⟩
set_option maxRecDepth 100000 in
theorem mb_X2_mark : MB yX2_mark cX2_mark 3 none 2 := ⟨gd_1 4 ⟨rfl, rfl⟩, gd_3 103 ⟨rfl, rfl⟩, by decide +kernel, by decide +kernel, by decide +kernel⟩
set_option maxRecDepth 100000 in
theorem mi_X2_mark : MI yX2_mark := ⟨gd_3 101 ⟨rfl, rfl⟩, gd_3 102 ⟨rfl, rfl⟩⟩
set_option maxRecDepth 100000 in
theorem mb_X2_oftenAt : MB yX2_oftenAt cX2_oftenAt 3 (some .int) 2 := ⟨gd_1 4 ⟨rfl, rfl⟩, gd_3 87 ⟨rfl, rfl⟩, by decide +kernel, by decide +kernel, by decide +kernel⟩
set_option maxRecDepth 100000 in
theorem mi_X2_oftenAt : MI yX2_oftenAt := ⟨gd_3 85 ⟨rfl, rfl⟩, gd_3 86 ⟨rfl, rfl⟩⟩
set_option maxRecDepth 100000 in
theorem mb_X2_partMany : MB yX2_partMany cX2_partMany 2 (some .int) 1 := ⟨gd_1 4 ⟨rfl, rfl⟩, gd_3 47 ⟨rfl, rfl⟩, by decide +kernel, by decide +kernel, by decide +kernel⟩
set_option maxRecDepth 100000 in
theorem mi_X2_partMany : MI yX2_partMany := ⟨gd_3 45 ⟨rfl, rfl⟩, gd_3 46 ⟨rfl, rfl⟩⟩
set_option maxRecDepth 100000 in
theorem mb_X2_placeOf : MB yX2_placeOf cX2_placeOf 4 (some .int) 2 := ⟨gd_1 4 ⟨rfl, rfl⟩, gd_3 27 ⟨rfl, rfl⟩, by decide +kernel, by decide +kernel, by decide +kernel⟩
set_option maxRecDepth 100000 in
theorem mi_X2_placeOf : MI yX2_placeOf := ⟨gd_3 25 ⟨rfl, rfl⟩, gd_3 26 ⟨rfl, rfl⟩⟩
set_option maxRecDepth 100000 in
theorem mb_X3_allOf : MB yX3_allOf cX3_allOf 5 (some .int) 2 := ⟨gd_1 10 ⟨rfl, rfl⟩, gd_4 115 ⟨rfl, rfl⟩, by decide +kernel, by decide +kernel, by decide +kernel⟩
set_option maxRecDepth 100000 in
theorem mi_X3_allOf : MI yX3_allOf := ⟨gd_4 113 ⟨rfl, rfl⟩, gd_4 114 ⟨rfl, rfl⟩⟩
set_option maxRecDepth 100000 in
theorem mb_X3_forWaiting : MB yX3_forWaiting cX3_forWaiting 3 (some .int) 2 := ⟨gd_1 10 ⟨rfl, rfl⟩, gd_4 102 ⟨rfl, rfl⟩, by decide +kernel, by decide +kernel, by decide +kernel⟩
set_option maxRecDepth 100000 in
theorem mi_X3_forWaiting : MI yX3_forWaiting := ⟨gd_4 101 ⟨rfl, rfl⟩, gd_p 14 ⟨rfl, rfl⟩⟩
set_option maxRecDepth 100000 in
theorem mb_X3_init : MB yX3_init cX3_init 4 none 3 := ⟨gd_1 10 ⟨rfl, rfl⟩, gd_2 4 ⟨rfl, rfl⟩, by decide +kernel, by decide +kernel, by decide +kernel⟩
set_option maxRecDepth 100000 in
theorem mb_X3_shareOf : MB yX3_shareOf cX3_shareOf 13 (some .int) 3 := ⟨gd_1 10 ⟨rfl, rfl⟩, gd_4 135 ⟨rfl, rfl⟩, by decide +kernel, by decide +kernel, by decide +kernel⟩
set_option maxRecDepth 100000 in
theorem mi_X3_shareOf : MI yX3_shareOf := ⟨gd_4 133 ⟨rfl, rfl⟩, gd_4 134 ⟨rfl, rfl⟩⟩
set_option maxRecDepth 100000 in
theorem mb_X3_tellOf : MB yX3_tellOf cX3_tellOf 4 (some .int) 3 := ⟨gd_1 10 ⟨rfl, rfl⟩, gd_4 93 ⟨rfl, rfl⟩, by decide +kernel, by decide +kernel, by decide +kernel⟩
set_option maxRecDepth 100000 in
theorem mi_X3_tellOf : MI yX3_tellOf := ⟨gd_4 91 ⟨rfl, rfl⟩, gd_4 92 ⟨rfl, rfl⟩⟩
set_option maxRecDepth 100000 in
theorem mb_X4_beginOf : MB yX4_beginOf cX4_beginOf 2 (some .int) 1 := ⟨gd_1 5 ⟨rfl, rfl⟩, gd_3 119 ⟨rfl, rfl⟩, by decide +kernel, by decide +kernel, by decide +kernel⟩
set_option maxRecDepth 100000 in
theorem mi_X4_beginOf : MI yX4_beginOf := ⟨gd_3 117 ⟨rfl, rfl⟩, gd_3 118 ⟨rfl, rfl⟩⟩
set_option maxRecDepth 100000 in
theorem mb_X4_canMake : MB yX4_canMake cX4_canMake 3 (some .boolean) 1 := ⟨gd_1 5 ⟨rfl, rfl⟩, gd_3 55 ⟨rfl, rfl⟩, by decide +kernel, by decide +kernel, by decide +kernel⟩
set_option maxRecDepth 100000 in
theorem mi_X4_canMake : MI yX4_canMake := ⟨gd_3 53 ⟨rfl, rfl⟩, gd_3 54 ⟨rfl, rfl⟩⟩
set_option maxRecDepth 100000 in
theorem mb_X4_inForce : MB yX4_inForce cX4_inForce 4 (some .int) 2 := ⟨gd_1 5 ⟨rfl, rfl⟩, gd_3 131 ⟨rfl, rfl⟩, by decide +kernel, by decide +kernel, by decide +kernel⟩
set_option maxRecDepth 100000 in
theorem mi_X4_inForce : MI yX4_inForce := ⟨gd_3 129 ⟨rfl, rfl⟩, gd_3 130 ⟨rfl, rfl⟩⟩
set_option maxRecDepth 100000 in
theorem mb_X4_init : MB yX4_init cX4_init 3 none 2 := ⟨gd_1 5 ⟨rfl, rfl⟩, gd_1 129 ⟨rfl, rfl⟩, by decide +kernel, by decide +kernel, by decide +kernel⟩
set_option maxRecDepth 100000 in
theorem mb_X4_isFull : MB yX4_isFull cX4_isFull 1 (some .boolean) 0 := ⟨gd_1 5 ⟨rfl, rfl⟩, gd_3 72 ⟨rfl, rfl⟩, by decide +kernel, by decide +kernel, by decide +kernel⟩
set_option maxRecDepth 100000 in
theorem mi_X4_isFull : MI yX4_isFull := ⟨gd_3 70 ⟨rfl, rfl⟩, gd_3 71 ⟨rfl, rfl⟩⟩
set_option maxRecDepth 100000 in
theorem mb_X4_latestOf : MB yX4_latestOf cX4_latestOf 3 (some .int) 1 := ⟨gd_1 5 ⟨rfl, rfl⟩, gd_3 31 ⟨rfl, rfl⟩, by decide +kernel, by decide +kernel, by decide +kernel⟩
set_option maxRecDepth 100000 in
theorem mi_X4_latestOf : MI yX4_latestOf := ⟨gd_3 29 ⟨rfl, rfl⟩, gd_3 30 ⟨rfl, rfl⟩⟩
set_option maxRecDepth 100000 in
theorem mb_X4_make : MB yX4_make cX4_make 7 (some .int) 2 := ⟨gd_1 5 ⟨rfl, rfl⟩, gd_3 76 ⟨rfl, rfl⟩, by decide +kernel, by decide +kernel, by decide +kernel⟩
set_option maxRecDepth 100000 in
theorem mi_X4_make : MI yX4_make := ⟨gd_3 74 ⟨rfl, rfl⟩, gd_3 75 ⟨rfl, rfl⟩⟩
set_option maxRecDepth 100000 in
theorem mb_X4_many : MB yX4_many cX4_many 1 (some .int) 0 := ⟨gd_1 5 ⟨rfl, rfl⟩, gd_5 35 ⟨rfl, rfl⟩, by decide +kernel, by decide +kernel, by decide +kernel⟩
set_option maxRecDepth 100000 in
theorem mi_X4_many : MI yX4_many := ⟨gd_5 33 ⟨rfl, rfl⟩, gd_5 34 ⟨rfl, rfl⟩⟩
set_option maxRecDepth 100000 in
theorem mb_X4_mayMove : MB yX4_mayMove cX4_mayMove 7 (some .boolean) 2 := ⟨gd_1 5 ⟨rfl, rfl⟩, gd_3 115 ⟨rfl, rfl⟩, by decide +kernel, by decide +kernel, by decide +kernel⟩
set_option maxRecDepth 100000 in
theorem mi_X4_mayMove : MI yX4_mayMove := ⟨gd_3 113 ⟨rfl, rfl⟩, gd_3 114 ⟨rfl, rfl⟩⟩
set_option maxRecDepth 100000 in
theorem mb_X4_sumOf : MB yX4_sumOf cX4_sumOf 2 (some .int) 1 := ⟨gd_1 5 ⟨rfl, rfl⟩, gd_3 135 ⟨rfl, rfl⟩, by decide +kernel, by decide +kernel, by decide +kernel⟩
set_option maxRecDepth 100000 in
theorem mi_X4_sumOf : MI yX4_sumOf := ⟨gd_3 133 ⟨rfl, rfl⟩, gd_3 134 ⟨rfl, rfl⟩⟩
set_option maxRecDepth 100000 in
theorem mb_X4_worthOf : MB yX4_worthOf cX4_worthOf 3 (some .int) 2 := ⟨gd_1 5 ⟨rfl, rfl⟩, gd_3 83 ⟨rfl, rfl⟩, by decide +kernel, by decide +kernel, by decide +kernel⟩
set_option maxRecDepth 100000 in
theorem mi_X4_worthOf : MI yX4_worthOf := ⟨gd_3 81 ⟨rfl, rfl⟩, gd_3 82 ⟨rfl, rfl⟩⟩
set_option maxRecDepth 100000 in
theorem mb_X5_addByte : MB yX5_addByte cX5_addByte 2 (some .int) 1 := ⟨gd_1 6 ⟨rfl, rfl⟩, gd_3 156 ⟨rfl, rfl⟩, by decide +kernel, by decide +kernel, by decide +kernel⟩
set_option maxRecDepth 100000 in
theorem mi_X5_addByte : MI yX5_addByte := ⟨gd_3 154 ⟨rfl, rfl⟩, gd_3 155 ⟨rfl, rfl⟩⟩
set_option maxRecDepth 100000 in
theorem mb_X5_alikeWith : MB yX5_alikeWith cX5_alikeWith 3 (some .int) 1 := ⟨gd_1 6 ⟨rfl, rfl⟩, gd_3 189 ⟨rfl, rfl⟩, by decide +kernel, by decide +kernel, by decide +kernel⟩
set_option maxRecDepth 100000 in
theorem mi_X5_alikeWith : MI yX5_alikeWith := ⟨gd_3 188 ⟨rfl, rfl⟩, gd_p 8 ⟨rfl, rfl⟩⟩
set_option maxRecDepth 100000 in
theorem mb_X5_byteMany : MB yX5_byteMany cX5_byteMany 1 (some .int) 0 := ⟨gd_1 6 ⟨rfl, rfl⟩, gd_5 43 ⟨rfl, rfl⟩, by decide +kernel, by decide +kernel, by decide +kernel⟩
set_option maxRecDepth 100000 in
theorem mi_X5_byteMany : MI yX5_byteMany := ⟨gd_5 41 ⟨rfl, rfl⟩, gd_5 42 ⟨rfl, rfl⟩⟩
set_option maxRecDepth 100000 in
theorem mb_X5_init : MB yX5_init cX5_init 1 none 0 := ⟨gd_1 6 ⟨rfl, rfl⟩, gd_1 157 ⟨rfl, rfl⟩, by decide +kernel, by decide +kernel, by decide +kernel⟩
set_option maxRecDepth 100000 in
theorem mb_X5_isFullOfBytes : MB yX5_isFullOfBytes cX5_isFullOfBytes 1 (some .boolean) 0 := ⟨gd_1 6 ⟨rfl, rfl⟩, gd_3 152 ⟨rfl, rfl⟩, by decide +kernel, by decide +kernel, by decide +kernel⟩
set_option maxRecDepth 100000 in
theorem mi_X5_isFullOfBytes : MI yX5_isFullOfBytes := ⟨gd_3 150 ⟨rfl, rfl⟩, gd_3 151 ⟨rfl, rfl⟩⟩
set_option maxRecDepth 100000 in
theorem mb_X5_readClause : MB yX5_readClause cX5_readClause 3 (some .boolean) 0 := ⟨gd_1 6 ⟨rfl, rfl⟩, gd_3 173 ⟨rfl, rfl⟩, by decide +kernel, by decide +kernel, by decide +kernel⟩
set_option maxRecDepth 100000 in
theorem mi_X5_readClause : MI yX5_readClause := ⟨gd_3 172 ⟨rfl, rfl⟩, gd_p 6 ⟨rfl, rfl⟩⟩
set_option maxRecDepth 100000 in
theorem mb_X5_readClauses : MB yX5_readClauses cX5_readClauses 2 (some .boolean) 0 := ⟨gd_1 6 ⟨rfl, rfl⟩, gd_3 168 ⟨rfl, rfl⟩, by decide +kernel, by decide +kernel, by decide +kernel⟩
set_option maxRecDepth 100000 in
theorem mi_X5_readClauses : MI yX5_readClauses := ⟨gd_3 167 ⟨rfl, rfl⟩, gd_p 5 ⟨rfl, rfl⟩⟩
set_option maxRecDepth 100000 in
theorem mb_X5_readNumber : MB yX5_readNumber cX5_readNumber 3 (some .int) 0 := ⟨gd_1 6 ⟨rfl, rfl⟩, gd_4 6 ⟨rfl, rfl⟩, by decide +kernel, by decide +kernel, by decide +kernel⟩
set_option maxRecDepth 100000 in
theorem mi_X5_readNumber : MI yX5_readNumber := ⟨gd_4 5 ⟨rfl, rfl⟩, gd_p 10 ⟨rfl, rfl⟩⟩
set_option maxRecDepth 100000 in
theorem mb_X5_readSign : MB yX5_readSign cX5_readSign 2 (some .boolean) 1 := ⟨gd_1 6 ⟨rfl, rfl⟩, gd_4 2 ⟨rfl, rfl⟩, by decide +kernel, by decide +kernel, by decide +kernel⟩
set_option maxRecDepth 100000 in
theorem mi_X5_readSign : MI yX5_readSign := ⟨gd_4 1 ⟨rfl, rfl⟩, gd_p 9 ⟨rfl, rfl⟩⟩
set_option maxRecDepth 100000 in
theorem mb_X5_readWord : MB yX5_readWord cX5_readWord 5 (some .int) 0 := ⟨gd_1 6 ⟨rfl, rfl⟩, gd_3 177 ⟨rfl, rfl⟩, by decide +kernel, by decide +kernel, by decide +kernel⟩
set_option maxRecDepth 100000 in
theorem mi_X5_readWord : MI yX5_readWord := ⟨gd_3 176 ⟨rfl, rfl⟩, gd_p 7 ⟨rfl, rfl⟩⟩
set_option maxRecDepth 100000 in
theorem mb_X5_takeNewValues : MB yX5_takeNewValues cX5_takeNewValues 3 (some .int) 0 := ⟨gd_1 6 ⟨rfl, rfl⟩, gd_4 13 ⟨rfl, rfl⟩, by decide +kernel, by decide +kernel, by decide +kernel⟩
set_option maxRecDepth 100000 in
theorem mi_X5_takeNewValues : MI yX5_takeNewValues := ⟨gd_4 12 ⟨rfl, rfl⟩, gd_p 11 ⟨rfl, rfl⟩⟩
set_option maxRecDepth 100000 in
theorem mb_X5_takeTape : MB yX5_takeTape cX5_takeTape 2 (some .int) 0 := ⟨gd_1 6 ⟨rfl, rfl⟩, gd_3 164 ⟨rfl, rfl⟩, by decide +kernel, by decide +kernel, by decide +kernel⟩
set_option maxRecDepth 100000 in
theorem mi_X5_takeTape : MI yX5_takeTape := ⟨gd_3 162 ⟨rfl, rfl⟩, gd_3 163 ⟨rfl, rfl⟩⟩
set_option maxRecDepth 100000 in
theorem mb_X5_valueOf : MB yX5_valueOf cX5_valueOf 2 (some .int) 1 := ⟨gd_1 6 ⟨rfl, rfl⟩, gd_3 111 ⟨rfl, rfl⟩, by decide +kernel, by decide +kernel, by decide +kernel⟩
set_option maxRecDepth 100000 in
theorem mi_X5_valueOf : MI yX5_valueOf := ⟨gd_3 109 ⟨rfl, rfl⟩, gd_3 110 ⟨rfl, rfl⟩⟩
set_option maxRecDepth 100000 in
theorem mb_X5_wordOf : MB yX5_wordOf cX5_wordOf 1 (some (.object "java/lang/String")) 1 := ⟨gd_1 6 ⟨rfl, rfl⟩, gd_3 180 ⟨rfl, rfl⟩, by decide +kernel, by decide +kernel, by decide +kernel⟩
set_option maxRecDepth 100000 in
theorem ms_X5_wordOf : Cond.static yX5_wordOf ∈ gd := gd_3 179 ⟨rfl, rfl⟩
set_option maxRecDepth 100000 in
theorem mb_X6_addRow : MB yX6_addRow cX6_addRow 6 none 3 := ⟨gd_1 12 ⟨rfl, rfl⟩, gd_5 6 ⟨rfl, rfl⟩, by decide +kernel, by decide +kernel, by decide +kernel⟩
set_option maxRecDepth 100000 in
theorem mi_X6_addRow : MI yX6_addRow := ⟨gd_5 5 ⟨rfl, rfl⟩, gd_p 21 ⟨rfl, rfl⟩⟩
set_option maxRecDepth 100000 in
theorem mb_X6_canTell : MB yX6_canTell cX6_canTell 1 (some .boolean) 0 := ⟨gd_1 12 ⟨rfl, rfl⟩, gd_4 228 ⟨rfl, rfl⟩, by decide +kernel, by decide +kernel, by decide +kernel⟩
set_option maxRecDepth 100000 in
theorem mi_X6_canTell : MI yX6_canTell := ⟨gd_4 226 ⟨rfl, rfl⟩, gd_4 227 ⟨rfl, rfl⟩⟩
set_option maxRecDepth 100000 in
theorem mb_X6_countWays : MB yX6_countWays cX6_countWays 4 none 0 := ⟨gd_1 12 ⟨rfl, rfl⟩, gd_4 236 ⟨rfl, rfl⟩, by decide +kernel, by decide +kernel, by decide +kernel⟩
set_option maxRecDepth 100000 in
theorem mi_X6_countWays : MI yX6_countWays := ⟨gd_4 235 ⟨rfl, rfl⟩, gd_p 19 ⟨rfl, rfl⟩⟩
set_option maxRecDepth 100000 in
theorem mb_X6_gather : MB yX6_gather cX6_gather 5 none 2 := ⟨gd_1 12 ⟨rfl, rfl⟩, gd_4 212 ⟨rfl, rfl⟩, by decide +kernel, by decide +kernel, by decide +kernel⟩
set_option maxRecDepth 100000 in
theorem mi_X6_gather : MI yX6_gather := ⟨gd_4 210 ⟨rfl, rfl⟩, gd_4 211 ⟨rfl, rfl⟩⟩
set_option maxRecDepth 100000 in
theorem mb_X6_init : MB yX6_init cX6_init 2 none 1 := ⟨gd_1 12 ⟨rfl, rfl⟩, gd_2 40 ⟨rfl, rfl⟩, by decide +kernel, by decide +kernel, by decide +kernel⟩
set_option maxRecDepth 100000 in
theorem mb_X6_isBeyondDoubt : MB yX6_isBeyondDoubt cX6_isBeyondDoubt 5 (some .boolean) 0 := ⟨gd_1 12 ⟨rfl, rfl⟩, gd_4 232 ⟨rfl, rfl⟩, by decide +kernel, by decide +kernel, by decide +kernel⟩
set_option maxRecDepth 100000 in
theorem mi_X6_isBeyondDoubt : MI yX6_isBeyondDoubt := ⟨gd_4 230 ⟨rfl, rfl⟩, gd_4 231 ⟨rfl, rfl⟩⟩
set_option maxRecDepth 100000 in
theorem mb_X6_rankOf : MB yX6_rankOf cX6_rankOf 4 (some .int) 1 := ⟨gd_1 12 ⟨rfl, rfl⟩, gd_5 1 ⟨rfl, rfl⟩, by decide +kernel, by decide +kernel, by decide +kernel⟩
set_option maxRecDepth 100000 in
theorem mi_X6_rankOf : MI yX6_rankOf := ⟨gd_5 0 ⟨rfl, rfl⟩, gd_p 20 ⟨rfl, rfl⟩⟩
set_option maxRecDepth 100000 in
theorem mb_X6_watchedRanks : MB yX6_watchedRanks cX6_watchedRanks 3 (some .int) 0 := ⟨gd_1 12 ⟨rfl, rfl⟩, gd_5 10 ⟨rfl, rfl⟩, by decide +kernel, by decide +kernel, by decide +kernel⟩
set_option maxRecDepth 100000 in
theorem mi_X6_watchedRanks : MI yX6_watchedRanks := ⟨gd_5 9 ⟨rfl, rfl⟩, gd_p 22 ⟨rfl, rfl⟩⟩
set_option maxRecDepth 100000 in
theorem mb_X7_add : MB yX7_add cX7_add 5 (some .int) 4 := ⟨gd_1 9 ⟨rfl, rfl⟩, gd_4 54 ⟨rfl, rfl⟩, by decide +kernel, by decide +kernel, by decide +kernel⟩
set_option maxRecDepth 100000 in
theorem mi_X7_add : MI yX7_add := ⟨gd_4 52 ⟨rfl, rfl⟩, gd_4 53 ⟨rfl, rfl⟩⟩
set_option maxRecDepth 100000 in
theorem mb_X7_init : MB yX7_init cX7_init 1 none 0 := ⟨gd_1 9 ⟨rfl, rfl⟩, gd_1 222 ⟨rfl, rfl⟩, by decide +kernel, by decide +kernel, by decide +kernel⟩
set_option maxRecDepth 100000 in
theorem mb_X7_isFull : MB yX7_isFull cX7_isFull 1 (some .boolean) 0 := ⟨gd_1 9 ⟨rfl, rfl⟩, gd_4 50 ⟨rfl, rfl⟩, by decide +kernel, by decide +kernel, by decide +kernel⟩
set_option maxRecDepth 100000 in
theorem mi_X7_isFull : MI yX7_isFull := ⟨gd_4 48 ⟨rfl, rfl⟩, gd_4 49 ⟨rfl, rfl⟩⟩
set_option maxRecDepth 100000 in
theorem mb_X7_many : MB yX7_many cX7_many 1 (some .int) 0 := ⟨gd_1 9 ⟨rfl, rfl⟩, gd_5 39 ⟨rfl, rfl⟩, by decide +kernel, by decide +kernel, by decide +kernel⟩
set_option maxRecDepth 100000 in
theorem mi_X7_many : MI yX7_many := ⟨gd_5 37 ⟨rfl, rfl⟩, gd_5 38 ⟨rfl, rfl⟩⟩
set_option maxRecDepth 100000 in
theorem mb_X7_minutesFor : MB yX7_minutesFor cX7_minutesFor 2 (some .int) 1 := ⟨gd_1 9 ⟨rfl, rfl⟩, gd_4 124 ⟨rfl, rfl⟩, by decide +kernel, by decide +kernel, by decide +kernel⟩
set_option maxRecDepth 100000 in
theorem mi_X7_minutesFor : MI yX7_minutesFor := ⟨gd_4 122 ⟨rfl, rfl⟩, gd_4 123 ⟨rfl, rfl⟩⟩
set_option maxRecDepth 100000 in
theorem mb_X7_minutesIn : MB yX7_minutesIn cX7_minutesIn 5 (some .int) 2 := ⟨gd_1 9 ⟨rfl, rfl⟩, gd_4 106 ⟨rfl, rfl⟩, by decide +kernel, by decide +kernel, by decide +kernel⟩
set_option maxRecDepth 100000 in
theorem mi_X7_minutesIn : MI yX7_minutesIn := ⟨gd_4 104 ⟨rfl, rfl⟩, gd_4 105 ⟨rfl, rfl⟩⟩
set_option maxRecDepth 100000 in
theorem mb_X8_addCycle : MB yX8_addCycle cX8_addCycle 5 (some .int) 4 := ⟨gd_1 3 ⟨rfl, rfl⟩, gd_2 193 ⟨rfl, rfl⟩, by decide +kernel, by decide +kernel, by decide +kernel⟩
set_option maxRecDepth 100000 in
theorem mi_X8_addCycle : MI yX8_addCycle := ⟨gd_2 191 ⟨rfl, rfl⟩, gd_2 192 ⟨rfl, rfl⟩⟩
set_option maxRecDepth 100000 in
theorem mb_X8_addFilm : MB yX8_addFilm cX8_addFilm 3 (some .int) 2 := ⟨gd_1 3 ⟨rfl, rfl⟩, gd_2 173 ⟨rfl, rfl⟩, by decide +kernel, by decide +kernel, by decide +kernel⟩
set_option maxRecDepth 100000 in
theorem mi_X8_addFilm : MI yX8_addFilm := ⟨gd_2 171 ⟨rfl, rfl⟩, gd_2 172 ⟨rfl, rfl⟩⟩
set_option maxRecDepth 100000 in
theorem mb_X8_cycleMany : MB yX8_cycleMany cX8_cycleMany 1 (some .int) 0 := ⟨gd_1 3 ⟨rfl, rfl⟩, gd_2 201 ⟨rfl, rfl⟩, by decide +kernel, by decide +kernel, by decide +kernel⟩
set_option maxRecDepth 100000 in
theorem mi_X8_cycleMany : MI yX8_cycleMany := ⟨gd_2 199 ⟨rfl, rfl⟩, gd_2 200 ⟨rfl, rfl⟩⟩
set_option maxRecDepth 100000 in
theorem mb_X8_filmMany : MB yX8_filmMany cX8_filmMany 1 (some .int) 0 := ⟨gd_1 3 ⟨rfl, rfl⟩, gd_5 31 ⟨rfl, rfl⟩, by decide +kernel, by decide +kernel, by decide +kernel⟩
set_option maxRecDepth 100000 in
theorem mi_X8_filmMany : MI yX8_filmMany := ⟨gd_5 29 ⟨rfl, rfl⟩, gd_5 30 ⟨rfl, rfl⟩⟩
set_option maxRecDepth 100000 in
theorem mb_X8_gatherNormals : MB yX8_gatherNormals cX8_gatherNormals 3 none 1 := ⟨gd_1 3 ⟨rfl, rfl⟩, gd_2 225 ⟨rfl, rfl⟩, by decide +kernel, by decide +kernel, by decide +kernel⟩
set_option maxRecDepth 100000 in
theorem mi_X8_gatherNormals : MI yX8_gatherNormals := ⟨gd_2 224 ⟨rfl, rfl⟩, gd_p 1 ⟨rfl, rfl⟩⟩
set_option maxRecDepth 100000 in
theorem mb_X8_habitOf : MB yX8_habitOf cX8_habitOf 2 (some .int) 1 := ⟨gd_1 3 ⟨rfl, rfl⟩, gd_2 181 ⟨rfl, rfl⟩, by decide +kernel, by decide +kernel, by decide +kernel⟩
set_option maxRecDepth 100000 in
theorem mi_X8_habitOf : MI yX8_habitOf := ⟨gd_2 179 ⟨rfl, rfl⟩, gd_2 180 ⟨rfl, rfl⟩⟩
set_option maxRecDepth 100000 in
theorem mb_X8_init : MB yX8_init cX8_init 2 none 1 := ⟨gd_1 3 ⟨rfl, rfl⟩, gd_1 51 ⟨rfl, rfl⟩, by decide +kernel, by decide +kernel, by decide +kernel⟩
set_option maxRecDepth 100000 in
theorem mb_X8_isFullOfCycles : MB yX8_isFullOfCycles cX8_isFullOfCycles 1 (some .boolean) 0 := ⟨gd_1 3 ⟨rfl, rfl⟩, gd_2 189 ⟨rfl, rfl⟩, by decide +kernel, by decide +kernel, by decide +kernel⟩
set_option maxRecDepth 100000 in
theorem mi_X8_isFullOfCycles : MI yX8_isFullOfCycles := ⟨gd_2 187 ⟨rfl, rfl⟩, gd_2 188 ⟨rfl, rfl⟩⟩
set_option maxRecDepth 100000 in
theorem mb_X8_isFullOfFilms : MB yX8_isFullOfFilms cX8_isFullOfFilms 1 (some .boolean) 0 := ⟨gd_1 3 ⟨rfl, rfl⟩, gd_2 169 ⟨rfl, rfl⟩, by decide +kernel, by decide +kernel, by decide +kernel⟩
set_option maxRecDepth 100000 in
theorem mi_X8_isFullOfFilms : MI yX8_isFullOfFilms := ⟨gd_2 167 ⟨rfl, rfl⟩, gd_2 168 ⟨rfl, rfl⟩⟩
set_option maxRecDepth 100000 in
theorem mb_X8_isTimed : MB yX8_isTimed cX8_isTimed 3 (some .boolean) 1 := ⟨gd_1 3 ⟨rfl, rfl⟩, gd_3 68 ⟨rfl, rfl⟩, by decide +kernel, by decide +kernel, by decide +kernel⟩
set_option maxRecDepth 100000 in
theorem mi_X8_isTimed : MI yX8_isTimed := ⟨gd_3 66 ⟨rfl, rfl⟩, gd_3 67 ⟨rfl, rfl⟩⟩
set_option maxRecDepth 100000 in
theorem mb_X8_keepNormals : MB yX8_keepNormals cX8_keepNormals 4 none 0 := ⟨gd_1 3 ⟨rfl, rfl⟩, gd_2 234 ⟨rfl, rfl⟩, by decide +kernel, by decide +kernel, by decide +kernel⟩
set_option maxRecDepth 100000 in
theorem mi_X8_keepNormals : MI yX8_keepNormals := ⟨gd_2 233 ⟨rfl, rfl⟩, gd_p 3 ⟨rfl, rfl⟩⟩
set_option maxRecDepth 100000 in
theorem mb_X8_normalOf : MB yX8_normalOf cX8_normalOf 3 (some .int) 1 := ⟨gd_1 3 ⟨rfl, rfl⟩, gd_2 205 ⟨rfl, rfl⟩, by decide +kernel, by decide +kernel, by decide +kernel⟩
set_option maxRecDepth 100000 in
theorem mi_X8_normalOf : MI yX8_normalOf := ⟨gd_2 203 ⟨rfl, rfl⟩, gd_2 204 ⟨rfl, rfl⟩⟩
set_option maxRecDepth 100000 in
theorem mb_X8_putInOrder : MB yX8_putInOrder cX8_putInOrder 3 none 1 := ⟨gd_1 3 ⟨rfl, rfl⟩, gd_2 230 ⟨rfl, rfl⟩, by decide +kernel, by decide +kernel, by decide +kernel⟩
set_option maxRecDepth 100000 in
theorem mi_X8_putInOrder : MI yX8_putInOrder := ⟨gd_2 229 ⟨rfl, rfl⟩, gd_p 2 ⟨rfl, rfl⟩⟩
set_option maxRecDepth 100000 in
theorem mb_X8_studied : MB yX8_studied cX8_studied 2 (some .int) 1 := ⟨gd_1 3 ⟨rfl, rfl⟩, gd_3 2 ⟨rfl, rfl⟩, by decide +kernel, by decide +kernel, by decide +kernel⟩
set_option maxRecDepth 100000 in
theorem mi_X8_studied : MI yX8_studied := ⟨gd_3 0 ⟨rfl, rfl⟩, gd_3 1 ⟨rfl, rfl⟩⟩
set_option maxRecDepth 100000 in
theorem mb_X8_study : MB yX8_study cX8_study 3 none 1 := ⟨gd_1 3 ⟨rfl, rfl⟩, gd_2 221 ⟨rfl, rfl⟩, by decide +kernel, by decide +kernel, by decide +kernel⟩
set_option maxRecDepth 100000 in
theorem mi_X8_study : MI yX8_study := ⟨gd_2 219 ⟨rfl, rfl⟩, gd_2 220 ⟨rfl, rfl⟩⟩
set_option maxRecDepth 100000 in
theorem mb_X9_add : MB yX9_add cX9_add 5 (some .int) 4 := ⟨gd_1 7 ⟨rfl, rfl⟩, gd_4 38 ⟨rfl, rfl⟩, by decide +kernel, by decide +kernel, by decide +kernel⟩
set_option maxRecDepth 100000 in
theorem mi_X9_add : MI yX9_add := ⟨gd_4 36 ⟨rfl, rfl⟩, gd_4 37 ⟨rfl, rfl⟩⟩
set_option maxRecDepth 100000 in
theorem mb_X9_earnedBy : MB yX9_earnedBy cX9_earnedBy 6 (some .int) 1 := ⟨gd_1 7 ⟨rfl, rfl⟩, gd_4 74 ⟨rfl, rfl⟩, by decide +kernel, by decide +kernel, by decide +kernel⟩
set_option maxRecDepth 100000 in
theorem mi_X9_earnedBy : MI yX9_earnedBy := ⟨gd_4 72 ⟨rfl, rfl⟩, gd_4 73 ⟨rfl, rfl⟩⟩
set_option maxRecDepth 100000 in
theorem mb_X9_earnedIn : MB yX9_earnedIn cX9_earnedIn 5 (some .int) 2 := ⟨gd_1 7 ⟨rfl, rfl⟩, gd_4 97 ⟨rfl, rfl⟩, by decide +kernel, by decide +kernel, by decide +kernel⟩
set_option maxRecDepth 100000 in
theorem mi_X9_earnedIn : MI yX9_earnedIn := ⟨gd_4 95 ⟨rfl, rfl⟩, gd_4 96 ⟨rfl, rfl⟩⟩
set_option maxRecDepth 100000 in
theorem mb_X9_goodAt : MB yX9_goodAt cX9_goodAt 2 (some .int) 1 := ⟨gd_1 7 ⟨rfl, rfl⟩, gd_4 219 ⟨rfl, rfl⟩, by decide +kernel, by decide +kernel, by decide +kernel⟩
set_option maxRecDepth 100000 in
theorem mi_X9_goodAt : MI yX9_goodAt := ⟨gd_4 217 ⟨rfl, rfl⟩, gd_4 218 ⟨rfl, rfl⟩⟩
set_option maxRecDepth 100000 in
theorem mb_X9_init : MB yX9_init cX9_init 3 none 2 := ⟨gd_1 7 ⟨rfl, rfl⟩, gd_1 179 ⟨rfl, rfl⟩, by decide +kernel, by decide +kernel, by decide +kernel⟩
set_option maxRecDepth 100000 in
theorem mb_X9_isFull : MB yX9_isFull cX9_isFull 1 (some .boolean) 0 := ⟨gd_1 7 ⟨rfl, rfl⟩, gd_4 34 ⟨rfl, rfl⟩, by decide +kernel, by decide +kernel, by decide +kernel⟩
set_option maxRecDepth 100000 in
theorem mi_X9_isFull : MI yX9_isFull := ⟨gd_4 32 ⟨rfl, rfl⟩, gd_4 33 ⟨rfl, rfl⟩⟩
set_option maxRecDepth 100000 in
theorem mb_X9_isWatched : MB yX9_isWatched cX9_isWatched 2 (some .boolean) 1 := ⟨gd_1 7 ⟨rfl, rfl⟩, gd_4 224 ⟨rfl, rfl⟩, by decide +kernel, by decide +kernel, by decide +kernel⟩
set_option maxRecDepth 100000 in
theorem mi_X9_isWatched : MI yX9_isWatched := ⟨gd_4 222 ⟨rfl, rfl⟩, gd_4 223 ⟨rfl, rfl⟩⟩
set_option maxRecDepth 100000 in
theorem mb_X9_jobAt : MB yX9_jobAt cX9_jobAt 2 (some .int) 1 := ⟨gd_1 7 ⟨rfl, rfl⟩, gd_4 161 ⟨rfl, rfl⟩, by decide +kernel, by decide +kernel, by decide +kernel⟩
set_option maxRecDepth 100000 in
theorem mi_X9_jobAt : MI yX9_jobAt := ⟨gd_4 159 ⟨rfl, rfl⟩, gd_4 160 ⟨rfl, rfl⟩⟩
set_option maxRecDepth 100000 in
theorem mb_X9_learnersMore : MB yX9_learnersMore cX9_learnersMore 5 (some .int) 2 := ⟨gd_1 7 ⟨rfl, rfl⟩, gd_4 84 ⟨rfl, rfl⟩, by decide +kernel, by decide +kernel, by decide +kernel⟩
set_option maxRecDepth 100000 in
theorem mi_X9_learnersMore : MI yX9_learnersMore := ⟨gd_4 83 ⟨rfl, rfl⟩, gd_p 13 ⟨rfl, rfl⟩⟩
set_option maxRecDepth 100000 in
theorem mb_X9_many : MB yX9_many cX9_many 1 (some .int) 0 := ⟨gd_1 7 ⟨rfl, rfl⟩, gd_4 70 ⟨rfl, rfl⟩, by decide +kernel, by decide +kernel, by decide +kernel⟩
set_option maxRecDepth 100000 in
theorem mi_X9_many : MI yX9_many := ⟨gd_4 68 ⟨rfl, rfl⟩, gd_4 69 ⟨rfl, rfl⟩⟩
set_option maxRecDepth 100000 in
theorem mb_X9_minutesAt : MB yX9_minutesAt cX9_minutesAt 2 (some .int) 1 := ⟨gd_1 7 ⟨rfl, rfl⟩, gd_4 166 ⟨rfl, rfl⟩, by decide +kernel, by decide +kernel, by decide +kernel⟩
set_option maxRecDepth 100000 in
theorem mi_X9_minutesAt : MI yX9_minutesAt := ⟨gd_4 164 ⟨rfl, rfl⟩, gd_4 165 ⟨rfl, rfl⟩⟩
set_option maxRecDepth 100000 in
theorem mb_X9_minutesIn : MB yX9_minutesIn cX9_minutesIn 5 (some .int) 2 := ⟨gd_1 7 ⟨rfl, rfl⟩, gd_4 111 ⟨rfl, rfl⟩, by decide +kernel, by decide +kernel, by decide +kernel⟩
set_option maxRecDepth 100000 in
theorem mi_X9_minutesIn : MI yX9_minutesIn := ⟨gd_4 109 ⟨rfl, rfl⟩, gd_4 110 ⟨rfl, rfl⟩⟩
set_option maxRecDepth 100000 in
theorem mb_X9_swapBegin : MB yX9_swapBegin cX9_swapBegin 5 (some .int) 3 := ⟨gd_1 7 ⟨rfl, rfl⟩, gd_4 62 ⟨rfl, rfl⟩, by decide +kernel, by decide +kernel, by decide +kernel⟩
set_option maxRecDepth 100000 in
theorem mi_X9_swapBegin : MI yX9_swapBegin := ⟨gd_4 60 ⟨rfl, rfl⟩, gd_4 61 ⟨rfl, rfl⟩⟩
set_option maxRecDepth 100000 in
theorem mb_X9_workerAt : MB yX9_workerAt cX9_workerAt 2 (some .int) 1 := ⟨gd_1 7 ⟨rfl, rfl⟩, gd_4 157 ⟨rfl, rfl⟩, by decide +kernel, by decide +kernel, by decide +kernel⟩
set_option maxRecDepth 100000 in
theorem mi_X9_workerAt : MI yX9_workerAt := ⟨gd_4 155 ⟨rfl, rfl⟩, gd_4 156 ⟨rfl, rfl⟩⟩
