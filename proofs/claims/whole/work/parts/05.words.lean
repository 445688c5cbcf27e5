theorem wF_X0_36 : Cond.fieldLink RX0 36 (TX0 0).1 (TX0 0).2.1 (TX0 0).2.2.1 ∈ tkTb := tk_tb (List.mem_append_right _ (List.mem_of_getElem? (i := 29) (by decide +kernel))) rfl
theorem wF_X8_64 : Cond.fieldLink RX8 64 (TX0 0).1 (TX0 0).2.1 (TX0 0).2.2.1 ∈ tkTb := tk_tb (List.mem_append_right _ (List.mem_of_getElem? (i := 30) (by decide +kernel))) rfl
theorem wF_X2_54 : Cond.fieldLink RX2 54 (TX0 0).1 (TX0 0).2.1 (TX0 0).2.2.1 ∈ tkTb := tk_tb (List.mem_append_right _ (List.mem_of_getElem? (i := 31) (by decide +kernel))) rfl
theorem wF_X0_9 : Cond.fieldLink RX0 9 (TX0 1).1 (TX0 1).2.1 (TX0 1).2.2.1 ∈ tkTb := tk_tb (List.mem_append_right _ (List.mem_of_getElem? (i := 32) (by decide +kernel))) rfl
theorem wF_X8_80 : Cond.fieldLink RX8 80 (TX0 1).1 (TX0 1).2.1 (TX0 1).2.2.1 ∈ tkTb := tk_tb (List.mem_append_right _ (List.mem_of_getElem? (i := 33) (by decide +kernel))) rfl
theorem wF_X0_15 : Cond.fieldLink RX0 15 (TX0 2).1 (TX0 2).2.1 (TX0 2).2.2.1 ∈ tkTb := tk_tb (List.mem_append_right _ (List.mem_of_getElem? (i := 34) (by decide +kernel))) rfl
theorem wF_X8_123 : Cond.fieldLink RX8 123 (TX0 2).1 (TX0 2).2.1 (TX0 2).2.2.1 ∈ tkTb := tk_tb (List.mem_append_right _ (List.mem_of_getElem? (i := 35) (by decide +kernel))) rfl
theorem wF_X0_18 : Cond.fieldLink RX0 18 (TX0 3).1 (TX0 3).2.1 (TX0 3).2.2.1 ∈ tkTb := tk_tb (List.mem_append_right _ (List.mem_of_getElem? (i := 36) (by decide +kernel))) rfl
theorem wF_X8_126 : Cond.fieldLink RX8 126 (TX0 3).1 (TX0 3).2.1 (TX0 3).2.2.1 ∈ tkTb := tk_tb (List.mem_append_right _ (List.mem_of_getElem? (i := 37) (by decide +kernel))) rfl
theorem wF_X0_21 : Cond.fieldLink RX0 21 (TX0 4).1 (TX0 4).2.1 (TX0 4).2.2.1 ∈ tkTb := tk_tb (List.mem_append_right _ (List.mem_of_getElem? (i := 38) (by decide +kernel))) rfl
theorem wF_X8_132 : Cond.fieldLink RX8 132 (TX0 4).1 (TX0 4).2.1 (TX0 4).2.2.1 ∈ tkTb := tk_tb (List.mem_append_right _ (List.mem_of_getElem? (i := 39) (by decide +kernel))) rfl
theorem wF_X0_24 : Cond.fieldLink RX0 24 (TX0 5).1 (TX0 5).2.1 (TX0 5).2.2.1 ∈ tkTb := tk_tb (List.mem_append_right _ (List.mem_of_getElem? (i := 40) (by decide +kernel))) rfl
theorem wF_X1_22 : Cond.fieldLink RX1 22 (TX0 5).1 (TX0 5).2.1 (TX0 5).2.2.1 ∈ tkTb := tk_tb (List.mem_append_right _ (List.mem_of_getElem? (i := 41) (by decide +kernel))) rfl
theorem wF_X8_92 : Cond.fieldLink RX8 92 (TX0 5).1 (TX0 5).2.1 (TX0 5).2.2.1 ∈ tkTb := tk_tb (List.mem_append_right _ (List.mem_of_getElem? (i := 42) (by decide +kernel))) rfl
theorem wF_X0_27 : Cond.fieldLink RX0 27 (TX0 6).1 (TX0 6).2.1 (TX0 6).2.2.1 ∈ tkTb := tk_tb (List.mem_append_right _ (List.mem_of_getElem? (i := 43) (by decide +kernel))) rfl
theorem wF_X1_33 : Cond.fieldLink RX1 33 (TX0 6).1 (TX0 6).2.1 (TX0 6).2.2.1 ∈ tkTb := tk_tb (List.mem_append_right _ (List.mem_of_getElem? (i := 44) (by decide +kernel))) rfl
theorem wF_X5_35 : Cond.fieldLink RX5 35 (TX0 6).1 (TX0 6).2.1 (TX0 6).2.2.1 ∈ tkTb := tk_tb (List.mem_append_right _ (List.mem_of_getElem? (i := 45) (by decide +kernel))) rfl
theorem wF_X0_30 : Cond.fieldLink RX0 30 (TX0 7).1 (TX0 7).2.1 (TX0 7).2.2.1 ∈ tkTb := tk_tb (List.mem_append_right _ (List.mem_of_getElem? (i := 46) (by decide +kernel))) rfl
theorem wF_X2_41 : Cond.fieldLink RX2 41 (TX0 7).1 (TX0 7).2.1 (TX0 7).2.2.1 ∈ tkTb := tk_tb (List.mem_append_right _ (List.mem_of_getElem? (i := 47) (by decide +kernel))) rfl
theorem wF_X8_145 : Cond.fieldLink RX8 145 (TX0 7).1 (TX0 7).2.1 (TX0 7).2.2.1 ∈ tkTb := tk_tb (List.mem_append_right _ (List.mem_of_getElem? (i := 48) (by decide +kernel))) rfl
theorem wF_X0_33 : Cond.fieldLink RX0 33 (TX0 8).1 (TX0 8).2.1 (TX0 8).2.2.1 ∈ tkTb := tk_tb (List.mem_append_right _ (List.mem_of_getElem? (i := 49) (by decide +kernel))) rfl
theorem wF_X3_11 : Cond.fieldLink RX3 11 (TX3 0).1 (TX3 0).2.1 (TX3 0).2.2.1 ∈ tkTb := tk_tb (List.mem_append_right _ (List.mem_of_getElem? (i := 79) (by decide +kernel))) rfl
theorem wF_X3_18 : Cond.fieldLink RX3 18 (TX3 1).1 (TX3 1).2.1 (TX3 1).2.2.1 ∈ tkTb := tk_tb (List.mem_append_right _ (List.mem_of_getElem? (i := 80) (by decide +kernel))) rfl
theorem wF_X3_26 : Cond.fieldLink RX3 26 (TX3 2).1 (TX3 2).2.1 (TX3 2).2.2.1 ∈ tkTb := tk_tb (List.mem_append_right _ (List.mem_of_getElem? (i := 81) (by decide +kernel))) rfl
theorem wF_X8_280 : Cond.fieldLink RX8 280 (TX3 2).1 (TX3 2).2.1 (TX3 2).2.2.1 ∈ tkTb := tk_tb (List.mem_append_right _ (List.mem_of_getElem? (i := 82) (by decide +kernel))) rfl
theorem wF_X5_9 : Cond.fieldLink RX5 9 (TX5 0).1 (TX5 0).2.1 (TX5 0).2.2.1 ∈ tkTb := tk_tb (List.mem_append_right _ (List.mem_of_getElem? (i := 108) (by decide +kernel))) rfl
theorem wF_X4_62 : Cond.fieldLink RX4 62 (TX5 0).1 (TX5 0).2.1 (TX5 0).2.2.1 ∈ tkTb := tk_tb (List.mem_append_right _ (List.mem_of_getElem? (i := 109) (by decide +kernel))) rfl
theorem wF_X4_59 : Cond.fieldLink RX4 59 (TX5 1).1 (TX5 1).2.1 (TX5 1).2.2.1 ∈ tkTb := tk_tb (List.mem_append_right _ (List.mem_of_getElem? (i := 110) (by decide +kernel))) rfl
theorem wF_X5_42 : Cond.fieldLink RX5 42 (TX5 1).1 (TX5 1).2.1 (TX5 1).2.2.1 ∈ tkTb := tk_tb (List.mem_append_right _ (List.mem_of_getElem? (i := 111) (by decide +kernel))) rfl
theorem wF_X5_32 : Cond.fieldLink RX5 32 (TX5 2).1 (TX5 2).2.1 (TX5 2).2.2.1 ∈ tkTb := tk_tb (List.mem_append_right _ (List.mem_of_getElem? (i := 112) (by decide +kernel))) rfl
theorem wF_X4_93 : Cond.fieldLink RX4 93 (TX5 2).1 (TX5 2).2.1 (TX5 2).2.2.1 ∈ tkTb := tk_tb (List.mem_append_right _ (List.mem_of_getElem? (i := 113) (by decide +kernel))) rfl
theorem wF_X4_12 : Cond.fieldLink RX4 12 (TX4 0).1 (TX4 0).2.1 (TX4 0).2.2.1 ∈ tkTb := tk_tb (List.mem_append_right _ (List.mem_of_getElem? (i := 121) (by decide +kernel))) rfl
theorem wF_X2_28 : Cond.fieldLink RX2 28 (TX4 0).1 (TX4 0).2.1 (TX4 0).2.2.1 ∈ tkTb := tk_tb (List.mem_append_right _ (List.mem_of_getElem? (i := 122) (by decide +kernel))) rfl
theorem wF_X4_18 : Cond.fieldLink RX4 18 (TX4 1).1 (TX4 1).2.1 (TX4 1).2.2.1 ∈ tkTb := tk_tb (List.mem_append_right _ (List.mem_of_getElem? (i := 123) (by decide +kernel))) rfl
theorem wF_X2_38 : Cond.fieldLink RX2 38 (TX4 1).1 (TX4 1).2.1 (TX4 1).2.2.1 ∈ tkTb := tk_tb (List.mem_append_right _ (List.mem_of_getElem? (i := 124) (by decide +kernel))) rfl
theorem wF_X4_21 : Cond.fieldLink RX4 21 (TX4 2).1 (TX4 2).2.1 (TX4 2).2.2.1 ∈ tkTb := tk_tb (List.mem_append_right _ (List.mem_of_getElem? (i := 125) (by decide +kernel))) rfl
theorem wF_X4_25 : Cond.fieldLink RX4 25 (TX4 3).1 (TX4 3).2.1 (TX4 3).2.2.1 ∈ tkTb := tk_tb (List.mem_append_right _ (List.mem_of_getElem? (i := 126) (by decide +kernel))) rfl
theorem wF_X4_28 : Cond.fieldLink RX4 28 (TX4 4).1 (TX4 4).2.1 (TX4 4).2.2.1 ∈ tkTb := tk_tb (List.mem_append_right _ (List.mem_of_getElem? (i := 127) (by decide +kernel))) rfl
theorem wF_X8_178 : Cond.fieldLink RX8 178 (TX4 4).1 (TX4 4).2.1 (TX4 4).2.2.1 ∈ tkTb := tk_tb (List.mem_append_right _ (List.mem_of_getElem? (i := 128) (by decide +kernel))) rfl
theorem wF_X4_31 : Cond.fieldLink RX4 31 (TX4 5).1 (TX4 5).2.1 (TX4 5).2.2.1 ∈ tkTb := tk_tb (List.mem_append_right _ (List.mem_of_getElem? (i := 129) (by decide +kernel))) rfl
theorem wF_X4_35 : Cond.fieldLink RX4 35 (TX4 6).1 (TX4 6).2.1 (TX4 6).2.2.1 ∈ tkTb := tk_tb (List.mem_append_right _ (List.mem_of_getElem? (i := 130) (by decide +kernel))) rfl
theorem wF_X4_38 : Cond.fieldLink RX4 38 (TX4 7).1 (TX4 7).2.1 (TX4 7).2.2.1 ∈ tkTb := tk_tb (List.mem_append_right _ (List.mem_of_getElem? (i := 131) (by decide +kernel))) rfl
theorem wF_X4_42 : Cond.fieldLink RX4 42 (TX4 8).1 (TX4 8).2.1 (TX4 8).2.2.1 ∈ tkTb := tk_tb (List.mem_append_right _ (List.mem_of_getElem? (i := 132) (by decide +kernel))) rfl
theorem wF_X2_50 : Cond.fieldLink RX2 50 (TX4 8).1 (TX4 8).2.1 (TX4 8).2.2.1 ∈ tkTb := tk_tb (List.mem_append_right _ (List.mem_of_getElem? (i := 133) (by decide +kernel))) rfl
theorem wF_X4_56 : Cond.fieldLink RX4 56 (TX4 9).1 (TX4 9).2.1 (TX4 9).2.2.1 ∈ tkTb := tk_tb (List.mem_append_right _ (List.mem_of_getElem? (i := 134) (by decide +kernel))) rfl
theorem wF_X8_164 : Cond.fieldLink RX8 164 (TX4 9).1 (TX4 9).2.1 (TX4 9).2.2.1 ∈ tkTb := tk_tb (List.mem_append_right _ (List.mem_of_getElem? (i := 135) (by decide +kernel))) rfl
theorem wF_X2_12 : Cond.fieldLink RX2 12 (TX2 0).1 (TX2 0).2.1 (TX2 0).2.2.1 ∈ tkTb := tk_tb (List.mem_append_right _ (List.mem_of_getElem? (i := 160) (by decide +kernel))) rfl
theorem wF_X2_18 : Cond.fieldLink RX2 18 (TX2 1).1 (TX2 1).2.1 (TX2 1).2.2.1 ∈ tkTb := tk_tb (List.mem_append_right _ (List.mem_of_getElem? (i := 161) (by decide +kernel))) rfl
theorem wF_X8_198 : Cond.fieldLink RX8 198 (TX2 1).1 (TX2 1).2.1 (TX2 1).2.2.1 ∈ tkTb := tk_tb (List.mem_append_right _ (List.mem_of_getElem? (i := 162) (by decide +kernel))) rfl
theorem wF_X7_9 : Cond.fieldLink RX7 9 (TX7 0).1 (TX7 0).2.1 (TX7 0).2.2.1 ∈ tkTb := tk_tb (List.mem_append_right _ (List.mem_of_getElem? (i := 174) (by decide +kernel))) rfl
theorem wF_X7_15 : Cond.fieldLink RX7 15 (TX7 1).1 (TX7 1).2.1 (TX7 1).2.2.1 ∈ tkTb := tk_tb (List.mem_append_right _ (List.mem_of_getElem? (i := 175) (by decide +kernel))) rfl
theorem wF_X8_211 : Cond.fieldLink RX8 211 (TX7 1).1 (TX7 1).2.1 (TX7 1).2.2.1 ∈ tkTb := tk_tb (List.mem_append_right _ (List.mem_of_getElem? (i := 176) (by decide +kernel))) rfl
theorem wF_X7_18 : Cond.fieldLink RX7 18 (TX7 2).1 (TX7 2).2.1 (TX7 2).2.2.1 ∈ tkTb := tk_tb (List.mem_append_right _ (List.mem_of_getElem? (i := 177) (by decide +kernel))) rfl
theorem wF_X8_208 : Cond.fieldLink RX8 208 (TX7 2).1 (TX7 2).2.1 (TX7 2).2.2.1 ∈ tkTb := tk_tb (List.mem_append_right _ (List.mem_of_getElem? (i := 178) (by decide +kernel))) rfl
theorem wF_X7_22 : Cond.fieldLink RX7 22 (TX7 3).1 (TX7 3).2.1 (TX7 3).2.2.1 ∈ tkTb := tk_tb (List.mem_append_right _ (List.mem_of_getElem? (i := 179) (by decide +kernel))) rfl
theorem wF_X8_205 : Cond.fieldLink RX8 205 (TX7 3).1 (TX7 3).2.1 (TX7 3).2.2.1 ∈ tkTb := tk_tb (List.mem_append_right _ (List.mem_of_getElem? (i := 180) (by decide +kernel))) rfl
theorem wF_X1_9 : Cond.fieldLink RX1 9 (TX1 0).1 (TX1 0).2.1 (TX1 0).2.2.1 ∈ tkTb := tk_tb (List.mem_append_right _ (List.mem_of_getElem? (i := 196) (by decide +kernel))) rfl
theorem wF_X1_15 : Cond.fieldLink RX1 15 (TX1 1).1 (TX1 1).2.1 (TX1 1).2.2.1 ∈ tkTb := tk_tb (List.mem_append_right _ (List.mem_of_getElem? (i := 197) (by decide +kernel))) rfl
theorem wF_X1_18 : Cond.fieldLink RX1 18 (TX1 2).1 (TX1 2).2.1 (TX1 2).2.2.1 ∈ tkTb := tk_tb (List.mem_append_right _ (List.mem_of_getElem? (i := 198) (by decide +kernel))) rfl
theorem wF_X8_225 : Cond.fieldLink RX8 225 (TX1 2).1 (TX1 2).2.1 (TX1 2).2.2.1 ∈ tkTb := tk_tb (List.mem_append_right _ (List.mem_of_getElem? (i := 199) (by decide +kernel))) rfl
theorem wF_X1_40 : Cond.fieldLink RX1 40 (TX1 3).1 (TX1 3).2.1 (TX1 3).2.2.1 ∈ tkTb := tk_tb (List.mem_append_right _ (List.mem_of_getElem? (i := 200) (by decide +kernel))) rfl
theorem wF_X8_228 : Cond.fieldLink RX8 228 (TX1 3).1 (TX1 3).2.1 (TX1 3).2.2.1 ∈ tkTb := tk_tb (List.mem_append_right _ (List.mem_of_getElem? (i := 201) (by decide +kernel))) rfl
theorem wF_X1_43 : Cond.fieldLink RX1 43 (TX1 4).1 (TX1 4).2.1 (TX1 4).2.2.1 ∈ tkTb := tk_tb (List.mem_append_right _ (List.mem_of_getElem? (i := 202) (by decide +kernel))) rfl
theorem wF_X8_231 : Cond.fieldLink RX8 231 (TX1 4).1 (TX1 4).2.1 (TX1 4).2.2.1 ∈ tkTb := tk_tb (List.mem_append_right _ (List.mem_of_getElem? (i := 203) (by decide +kernel))) rfl
theorem wF_X6_15 : Cond.fieldLink RX6 15 (TX6 0).1 (TX6 0).2.1 (TX6 0).2.2.1 ∈ tkTb := tk_tb (List.mem_append_right _ (List.mem_of_getElem? (i := 222) (by decide +kernel))) rfl
theorem wF_X8_256 : Cond.fieldLink RX8 256 (TX6 0).1 (TX6 0).2.1 (TX6 0).2.2.1 ∈ tkTb := tk_tb (List.mem_append_right _ (List.mem_of_getElem? (i := 223) (by decide +kernel))) rfl
theorem wF_X6_19 : Cond.fieldLink RX6 19 (TX6 1).1 (TX6 1).2.1 (TX6 1).2.2.1 ∈ tkTb := tk_tb (List.mem_append_right _ (List.mem_of_getElem? (i := 224) (by decide +kernel))) rfl
theorem wF_X8_247 : Cond.fieldLink RX8 247 (TX6 1).1 (TX6 1).2.1 (TX6 1).2.2.1 ∈ tkTb := tk_tb (List.mem_append_right _ (List.mem_of_getElem? (i := 225) (by decide +kernel))) rfl
theorem wF_X6_9 : Cond.fieldLink RX6 9 (TX6 2).1 (TX6 2).2.1 (TX6 2).2.2.1 ∈ tkTb := tk_tb (List.mem_append_right _ (List.mem_of_getElem? (i := 226) (by decide +kernel))) rfl
theorem wF_X8_262 : Cond.fieldLink RX8 262 (TX6 2).1 (TX6 2).2.1 (TX6 2).2.2.1 ∈ tkTb := tk_tb (List.mem_append_right _ (List.mem_of_getElem? (i := 227) (by decide +kernel))) rfl
theorem wF_X8_10 : Cond.fieldLink RX8 10 (TX8 0).1 (TX8 0).2.1 (TX8 0).2.2.1 ∈ tkTb := tk_tb (List.mem_append_right _ (List.mem_of_getElem? (i := 235) (by decide +kernel))) rfl
theorem wF_X8_19 : Cond.fieldLink RX8 19 (TX8 1).1 (TX8 1).2.1 (TX8 1).2.2.1 ∈ tkTb := tk_tb (List.mem_append_right _ (List.mem_of_getElem? (i := 236) (by decide +kernel))) rfl
theorem wF_X8_26 : Cond.fieldLink RX8 26 (TX8 2).1 (TX8 2).2.1 (TX8 2).2.2.1 ∈ tkTb := tk_tb (List.mem_append_right _ (List.mem_of_getElem? (i := 237) (by decide +kernel))) rfl
theorem wF_X8_33 : Cond.fieldLink RX8 33 (TX8 3).1 (TX8 3).2.1 (TX8 3).2.2.1 ∈ tkTb := tk_tb (List.mem_append_right _ (List.mem_of_getElem? (i := 238) (by decide +kernel))) rfl
theorem wF_X8_40 : Cond.fieldLink RX8 40 (TX8 4).1 (TX8 4).2.1 (TX8 4).2.2.1 ∈ tkTb := tk_tb (List.mem_append_right _ (List.mem_of_getElem? (i := 239) (by decide +kernel))) rfl
theorem wF_X8_46 : Cond.fieldLink RX8 46 (TX8 5).1 (TX8 5).2.1 (TX8 5).2.2.1 ∈ tkTb := tk_tb (List.mem_append_right _ (List.mem_of_getElem? (i := 240) (by decide +kernel))) rfl
theorem wF_X8_51 : Cond.fieldLink RX8 51 (TX8 6).1 (TX8 6).2.1 (TX8 6).2.2.1 ∈ tkTb := tk_tb (List.mem_append_right _ (List.mem_of_getElem? (i := 241) (by decide +kernel))) rfl
theorem wF_X9_9 : Cond.fieldLink RX9 9 (TX9 0).1 (TX9 0).2.1 (TX9 0).2.2.1 ∈ tkTb := tk_tb (List.mem_append_right _ (List.mem_of_getElem? (i := 704) (by decide +kernel))) rfl
theorem wF_X9_13 : Cond.fieldLink RX9 13 (TX9 1).1 (TX9 1).2.1 (TX9 1).2.2.1 ∈ tkTb := tk_tb (List.mem_append_right _ (List.mem_of_getElem? (i := 705) (by decide +kernel))) rfl
theorem wF_X9_54 : Cond.fieldLink RX9 54 (TX9 2).1 (TX9 2).2.1 (TX9 2).2.2.1 ∈ tkTb := tk_tb (List.mem_append_right _ (List.mem_of_getElem? (i := 706) (by decide +kernel))) rfl
theorem wF_X9_46 : Cond.fieldLink RX9 46 (TX9 3).1 (TX9 3).2.1 (TX9 3).2.2.1 ∈ tkTb := tk_tb (List.mem_append_right _ (List.mem_of_getElem? (i := 707) (by decide +kernel))) rfl
theorem wF_X9_16 : Cond.fieldLink RX9 16 (TX9 4).1 (TX9 4).2.1 (TX9 4).2.2.1 ∈ tkTb := tk_tb (List.mem_append_right _ (List.mem_of_getElem? (i := 708) (by decide +kernel))) rfl
theorem wF_X9_19 : Cond.fieldLink RX9 19 (TX9 5).1 (TX9 5).2.1 (TX9 5).2.2.1 ∈ tkTb := tk_tb (List.mem_append_right _ (List.mem_of_getElem? (i := 709) (by decide +kernel))) rfl
theorem wF_X9_22 : Cond.fieldLink RX9 22 (TX9 6).1 (TX9 6).2.1 (TX9 6).2.2.1 ∈ tkTb := tk_tb (List.mem_append_right _ (List.mem_of_getElem? (i := 710) (by decide +kernel))) rfl
theorem wF_X9_25 : Cond.fieldLink RX9 25 (TX9 7).1 (TX9 7).2.1 (TX9 7).2.2.1 ∈ tkTb := tk_tb (List.mem_append_right _ (List.mem_of_getElem? (i := 711) (by decide +kernel))) rfl
theorem wF_X9_104 : Cond.fieldLink RX9 104 (TX9 8).1 (TX9 8).2.1 (TX9 8).2.2.1 ∈ tkTb := tk_tb (List.mem_append_right _ (List.mem_of_getElem? (i := 712) (by decide +kernel))) rfl
theorem wF_X9_107 : Cond.fieldLink RX9 107 (TX9 9).1 (TX9 9).2.1 (TX9 9).2.2.1 ∈ tkTb := tk_tb (List.mem_append_right _ (List.mem_of_getElem? (i := 713) (by decide +kernel))) rfl
theorem wF_X9_110 : Cond.fieldLink RX9 110 (TX9 10).1 (TX9 10).2.1 (TX9 10).2.2.1 ∈ tkTb := tk_tb (List.mem_append_right _ (List.mem_of_getElem? (i := 714) (by decide +kernel))) rfl
theorem wF_X9_116 : Cond.fieldLink RX9 116 (TX9 11).1 (TX9 11).2.1 (TX9 11).2.2.1 ∈ tkTb := tk_tb (List.mem_append_right _ (List.mem_of_getElem? (i := 715) (by decide +kernel))) rfl
theorem wF_X9_124 : Cond.fieldLink RX9 124 (TX9 12).1 (TX9 12).2.1 (TX9 12).2.2.1 ∈ tkTb := tk_tb (List.mem_append_right _ (List.mem_of_getElem? (i := 716) (by decide +kernel))) rfl
theorem wF_X9_127 : Cond.fieldLink RX9 127 (TX9 13).1 (TX9 13).2.1 (TX9 13).2.2.1 ∈ tkTb := tk_tb (List.mem_append_right _ (List.mem_of_getElem? (i := 717) (by decide +kernel))) rfl
theorem wF_X9_130 : Cond.fieldLink RX9 130 (TX9 14).1 (TX9 14).2.1 (TX9 14).2.2.1 ∈ tkTb := tk_tb (List.mem_append_right _ (List.mem_of_getElem? (i := 718) (by decide +kernel))) rfl
theorem wF_X9_133 : Cond.fieldLink RX9 133 (TX9 15).1 (TX9 15).2.1 (TX9 15).2.2.1 ∈ tkTb := tk_tb (List.mem_append_right _ (List.mem_of_getElem? (i := 719) (by decide +kernel))) rfl
theorem wF_X9_28 : Cond.fieldLink RX9 28 (TX9 16).1 (TX9 16).2.1 (TX9 16).2.2.1 ∈ tkTb := tk_tb (List.mem_append_right _ (List.mem_of_getElem? (i := 720) (by decide +kernel))) rfl
theorem wF_X9_161 : Cond.fieldLink RX9 161 (TX9 17).1 (TX9 17).2.1 (TX9 17).2.2.1 ∈ tkTb := tk_tb (List.mem_append_right _ (List.mem_of_getElem? (i := 721) (by decide +kernel))) rfl
theorem wF_X9_31 : Cond.fieldLink RX9 31 (TX9 18).1 (TX9 18).2.1 (TX9 18).2.2.1 ∈ tkTb := tk_tb (List.mem_append_right _ (List.mem_of_getElem? (i := 722) (by decide +kernel))) rfl
theorem wF_X9_178 : Cond.fieldLink RX9 178 (TX9 19).1 (TX9 19).2.1 (TX9 19).2.2.1 ∈ tkTb := tk_tb (List.mem_append_right _ (List.mem_of_getElem? (i := 723) (by decide +kernel))) rfl
theorem wF_X9_34 : Cond.fieldLink RX9 34 (TX9 20).1 (TX9 20).2.1 (TX9 20).2.2.1 ∈ tkTb := tk_tb (List.mem_append_right _ (List.mem_of_getElem? (i := 724) (by decide +kernel))) rfl
theorem wF_X9_37 : Cond.fieldLink RX9 37 (TX9 21).1 (TX9 21).2.1 (TX9 21).2.2.1 ∈ tkTb := tk_tb (List.mem_append_right _ (List.mem_of_getElem? (i := 725) (by decide +kernel))) rfl
theorem wF_X9_40 : Cond.fieldLink RX9 40 (TX9 22).1 (TX9 22).2.1 (TX9 22).2.2.1 ∈ tkTb := tk_tb (List.mem_append_right _ (List.mem_of_getElem? (i := 726) (by decide +kernel))) rfl
theorem wF_X9_190 : Cond.fieldLink RX9 190 (TX9 23).1 (TX9 23).2.1 (TX9 23).2.2.1 ∈ tkTb := tk_tb (List.mem_append_right _ (List.mem_of_getElem? (i := 727) (by decide +kernel))) rfl
theorem wF_X9_193 : Cond.fieldLink RX9 193 (TX9 24).1 (TX9 24).2.1 (TX9 24).2.2.1 ∈ tkTb := tk_tb (List.mem_append_right _ (List.mem_of_getElem? (i := 728) (by decide +kernel))) rfl
theorem wF_X9_209 : Cond.fieldLink RX9 209 (TX9 25).1 (TX9 25).2.1 (TX9 25).2.2.1 ∈ tkTb := tk_tb (List.mem_append_right _ (List.mem_of_getElem? (i := 729) (by decide +kernel))) rfl
theorem wF_X9_216 : Cond.fieldLink RX9 216 (TX9 26).1 (TX9 26).2.1 (TX9 26).2.2.1 ∈ tkTb := tk_tb (List.mem_append_right _ (List.mem_of_getElem? (i := 730) (by decide +kernel))) rfl
theorem wF_X9_219 : Cond.fieldLink RX9 219 (TX9 27).1 (TX9 27).2.1 (TX9 27).2.2.1 ∈ tkTb := tk_tb (List.mem_append_right _ (List.mem_of_getElem? (i := 731) (by decide +kernel))) rfl
theorem wF_X9_43 : Cond.fieldLink RX9 43 (TX9 28).1 (TX9 28).2.1 (TX9 28).2.2.1 ∈ tkTb := tk_tb (List.mem_append_right _ (List.mem_of_getElem? (i := 732) (by decide +kernel))) rfl
theorem wN_X4_45 : Cond.fieldLinkNest RX4 45 "TaleDesk" "CARRYINGS" "[I" "TaleDesk" ∈ lw_tbl := (List.mem_append_right _ (List.mem_of_getElem? (i := 433) (by decide +kernel)))
theorem wK_X8_59 : Cond.constant RX8 59 (-100001) ∈ tkTb := tk_tb (List.mem_append_right _ (List.mem_of_getElem? (i := 264) (by decide +kernel))) rfl
theorem wK_X8_67 : Cond.constant RX8 67 (-100005) ∈ tkTb := tk_tb (List.mem_append_right _ (List.mem_of_getElem? (i := 269) (by decide +kernel))) rfl
theorem wK_X8_87 : Cond.constant RX8 87 (-100004) ∈ tkTb := tk_tb (List.mem_append_right _ (List.mem_of_getElem? (i := 300) (by decide +kernel))) rfl
theorem wK_X8_106 : Cond.constant RX8 106 (-100006) ∈ tkTb := tk_tb (List.mem_append_right _ (List.mem_of_getElem? (i := 323) (by decide +kernel))) rfl
theorem wK_X8_138 : Cond.constant RX8 138 (-100007) ∈ tkTb := tk_tb (List.mem_append_right _ (List.mem_of_getElem? (i := 366) (by decide +kernel))) rfl
theorem wK_X8_148 : Cond.constant RX8 148 (-100003) ∈ tkTb := tk_tb (List.mem_append_right _ (List.mem_of_getElem? (i := 392) (by decide +kernel))) rfl
theorem wK_X4_41 : Cond.constant RX4 41 (1000000) ∈ tkTb := tk_tb (List.mem_append_right _ (List.mem_of_getElem? (i := 432) (by decide +kernel))) rfl
theorem wK_J6_265 : Cond.constant RJ6 265 (1431655765) ∈ tkTb := tk_tb (List.mem_append_right _ (List.mem_of_getElem? (i := 531) (by decide +kernel))) rfl
theorem wK_J6_266 : Cond.constant RJ6 266 (858993459) ∈ tkTb := tk_tb (List.mem_append_right _ (List.mem_of_getElem? (i := 532) (by decide +kernel))) rfl
theorem wK_J6_267 : Cond.constant RJ6 267 (252645135) ∈ tkTb := tk_tb (List.mem_append_right _ (List.mem_of_getElem? (i := 533) (by decide +kernel))) rfl
theorem wK_X8_252 : Cond.constant RX8 252 (-100002) ∈ tkTb := tk_tb (List.mem_append_right _ (List.mem_of_getElem? (i := 648) (by decide +kernel))) rfl
theorem wK_X6_28 : Cond.constant RX6 28 (65535) ∈ tkTb := tk_tb (List.mem_append_right _ (List.mem_of_getElem? (i := 653) (by decide +kernel))) rfl
theorem wK_X9_57 : Cond.constant RX9 57 (-100006) ∈ tkTb := tk_tb (List.mem_append_right _ (List.mem_of_getElem? (i := 796) (by decide +kernel))) rfl
theorem wK_X9_66 : Cond.constant RX9 66 (-100001) ∈ tkTb := tk_tb (List.mem_append_right _ (List.mem_of_getElem? (i := 811) (by decide +kernel))) rfl
theorem wK_X9_67 : Cond.constant RX9 67 (-100005) ∈ tkTb := tk_tb (List.mem_append_right _ (List.mem_of_getElem? (i := 812) (by decide +kernel))) rfl
theorem wK_X9_74 : Cond.constant RX9 74 (-100004) ∈ tkTb := tk_tb (List.mem_append_right _ (List.mem_of_getElem? (i := 825) (by decide +kernel))) rfl
theorem wK_X9_102 : Cond.constant RX9 102 (-100007) ∈ tkTb := tk_tb (List.mem_append_right _ (List.mem_of_getElem? (i := 876) (by decide +kernel))) rfl
theorem wK_X9_103 : Cond.constant RX9 103 (-100003) ∈ tkTb := tk_tb (List.mem_append_right _ (List.mem_of_getElem? (i := 889) (by decide +kernel))) rfl
theorem wK_X9_151 : Cond.constant RX9 151 (1000000) ∈ tkTb := tk_tb (List.mem_append_right _ (List.mem_of_getElem? (i := 914) (by decide +kernel))) rfl
theorem wK_X9_235 : Cond.constant RX9 235 (-100002) ∈ tkTb := tk_tb (List.mem_append_right _ (List.mem_of_getElem? (i := 1055) (by decide +kernel))) rfl
theorem wM_L_9 : Cond.methodLink RL 9 yX8_init ∈ tkTb := tk_tb (List.mem_append_right _ (List.mem_of_getElem? (i := 17) (by decide +kernel))) rfl
theorem wM_X8_18 : Cond.methodLink RX8 18 yX3_init ∈ tkTb := tk_tb (List.mem_append_right _ (List.mem_of_getElem? (i := 72) (by decide +kernel))) rfl
theorem wM_X8_25 : Cond.methodLink RX8 25 yX2_init ∈ tkTb := tk_tb (List.mem_append_right _ (List.mem_of_getElem? (i := 92) (by decide +kernel))) rfl
theorem wM_X2_22 : Cond.methodLink RX2 22 yJ7_fill_53178 ∈ tkTb := tk_tb (List.mem_append_right _ (List.mem_of_getElem? (i := 157) (by decide +kernel))) rfl
theorem wM_L_13 : Cond.methodLink RL 13 yX8_tale ∈ tkTb := tk_tb (List.mem_append_right _ (List.mem_of_getElem? (i := 257) (by decide +kernel))) rfl
theorem wM_X8_55 : Cond.methodLink RX8 55 yX8_isWithin ∈ tkTb := tk_tb (List.mem_append_right _ (List.mem_of_getElem? (i := 261) (by decide +kernel))) rfl
theorem wM_X8_60 : Cond.methodLink RX8 60 yX8_finding ∈ tkTb := tk_tb (List.mem_append_right _ (List.mem_of_getElem? (i := 265) (by decide +kernel))) rfl
theorem wM_X8_68 : Cond.methodLink RX8 68 yX3_keep ∈ tkTb := tk_tb (List.mem_append_right _ (List.mem_of_getElem? (i := 270) (by decide +kernel))) rfl
theorem wM_X3_22 : Cond.methodLink RX3 22 yX0_takeFrom ∈ tkTb := tk_tb (List.mem_append_right _ (List.mem_of_getElem? (i := 274) (by decide +kernel))) rfl
theorem wM_X0_40 : Cond.methodLink RX0 40 arraycopyName ∈ tkTb := tk_tb (List.mem_append_right _ (List.mem_of_getElem? (i := 278) (by decide +kernel))) rfl
theorem wM_X3_29 : Cond.methodLink RX3 29 yJ9_min_7cf53 ∈ tkTb := tk_tb (List.mem_append_right _ (List.mem_of_getElem? (i := 281) (by decide +kernel))) rfl
theorem wM_X8_72 : Cond.methodLink RX8 72 yX0_addTale ∈ tkTb := tk_tb (List.mem_append_right _ (List.mem_of_getElem? (i := 284) (by decide +kernel))) rfl
theorem wM_L_18 : Cond.methodLink RL 18 yX8_as ∈ tkTb := tk_tb (List.mem_append_right _ (List.mem_of_getElem? (i := 288) (by decide +kernel))) rfl
theorem wM_X8_76 : Cond.methodLink RX8 76 yX0_hasTale ∈ tkTb := tk_tb (List.mem_append_right _ (List.mem_of_getElem? (i := 292) (by decide +kernel))) rfl
theorem wM_X8_84 : Cond.methodLink RX8 84 yX8_isUnder ∈ tkTb := tk_tb (List.mem_append_right _ (List.mem_of_getElem? (i := 297) (by decide +kernel))) rfl
theorem wM_L_23 : Cond.methodLink RL 23 yX8_step ∈ tkTb := tk_tb (List.mem_append_right _ (List.mem_of_getElem? (i := 301) (by decide +kernel))) rfl
theorem wM_X8_88 : Cond.methodLink RX8 88 yX8_isStep ∈ tkTb := tk_tb (List.mem_append_right _ (List.mem_of_getElem? (i := 305) (by decide +kernel))) rfl
theorem wM_X8_95 : Cond.methodLink RX8 95 yX8_packed ∈ tkTb := tk_tb (List.mem_append_right _ (List.mem_of_getElem? (i := 308) (by decide +kernel))) rfl
theorem wM_X8_98 : Cond.methodLink RX8 98 yX0_addStep ∈ tkTb := tk_tb (List.mem_append_right _ (List.mem_of_getElem? (i := 311) (by decide +kernel))) rfl
theorem wM_X8_102 : Cond.methodLink RX8 102 yX2_forget ∈ tkTb := tk_tb (List.mem_append_right _ (List.mem_of_getElem? (i := 315) (by decide +kernel))) rfl
theorem wM_L_28 : Cond.methodLink RL 28 yX8_unstep ∈ tkTb := tk_tb (List.mem_append_right _ (List.mem_of_getElem? (i := 319) (by decide +kernel))) rfl
theorem wM_L_33 : Cond.methodLink RL 33 yX8_of ∈ tkTb := tk_tb (List.mem_append_right _ (List.mem_of_getElem? (i := 324) (by decide +kernel))) rfl
theorem wM_X8_107 : Cond.methodLink RX8 107 yX0_hasStep ∈ tkTb := tk_tb (List.mem_append_right _ (List.mem_of_getElem? (i := 328) (by decide +kernel))) rfl
theorem wM_X0_50 : Cond.methodLink RX0 50 yX0_hasTale ∈ tkTb := tk_tb (List.mem_append_right _ (List.mem_of_getElem? (i := 332) (by decide +kernel))) rfl
theorem wM_X8_110 : Cond.methodLink RX8 110 yX0_stepAt ∈ tkTb := tk_tb (List.mem_append_right _ (List.mem_of_getElem? (i := 333) (by decide +kernel))) rfl
theorem wM_X8_114 : Cond.methodLink RX8 114 yX8_motifOf ∈ tkTb := tk_tb (List.mem_append_right _ (List.mem_of_getElem? (i := 337) (by decide +kernel))) rfl
theorem wM_X8_117 : Cond.methodLink RX8 117 yX8_whoOf ∈ tkTb := tk_tb (List.mem_append_right _ (List.mem_of_getElem? (i := 340) (by decide +kernel))) rfl
theorem wM_X8_120 : Cond.methodLink RX8 120 yX8_whomOf ∈ tkTb := tk_tb (List.mem_append_right _ (List.mem_of_getElem? (i := 343) (by decide +kernel))) rfl
theorem wM_L_37 : Cond.methodLink RL 37 yX8_told ∈ tkTb := tk_tb (List.mem_append_right _ (List.mem_of_getElem? (i := 346) (by decide +kernel))) rfl
theorem wM_X8_129 : Cond.methodLink RX8 129 yX0_laidLength ∈ tkTb := tk_tb (List.mem_append_right _ (List.mem_of_getElem? (i := 350) (by decide +kernel))) rfl
theorem wM_X0_75 : Cond.methodLink RX0 75 yX0_isFramed ∈ tkTb := tk_tb (List.mem_append_right _ (List.mem_of_getElem? (i := 354) (by decide +kernel))) rfl
theorem wM_L_41 : Cond.methodLink RL 41 yX8_print ∈ tkTb := tk_tb (List.mem_append_right _ (List.mem_of_getElem? (i := 358) (by decide +kernel))) rfl
theorem wM_X8_135 : Cond.methodLink RX8 135 yX0_printsLeadTo ∈ tkTb := tk_tb (List.mem_append_right _ (List.mem_of_getElem? (i := 362) (by decide +kernel))) rfl
theorem wM_L_45 : Cond.methodLink RL 45 yX8_recode ∈ tkTb := tk_tb (List.mem_append_right _ (List.mem_of_getElem? (i := 367) (by decide +kernel))) rfl
theorem wM_X8_139 : Cond.methodLink RX8 139 yX2_forgetAll ∈ tkTb := tk_tb (List.mem_append_right _ (List.mem_of_getElem? (i := 371) (by decide +kernel))) rfl
theorem wM_X8_142 : Cond.methodLink RX8 142 yX0_changeMotif ∈ tkTb := tk_tb (List.mem_append_right _ (List.mem_of_getElem? (i := 375) (by decide +kernel))) rfl
theorem wM_X0_54 : Cond.methodLink RX0 54 yX0_stepAt ∈ tkTb := tk_tb (List.mem_append_right _ (List.mem_of_getElem? (i := 379) (by decide +kernel))) rfl
theorem wM_L_49 : Cond.methodLink RL 49 yX8_price ∈ tkTb := tk_tb (List.mem_append_right _ (List.mem_of_getElem? (i := 384) (by decide +kernel))) rfl
theorem wM_L_53 : Cond.methodLink RL 53 yX8_way ∈ tkTb := tk_tb (List.mem_append_right _ (List.mem_of_getElem? (i := 388) (by decide +kernel))) rfl
theorem wM_X8_149 : Cond.methodLink RX8 149 yX0_wayBetween ∈ tkTb := tk_tb (List.mem_append_right _ (List.mem_of_getElem? (i := 393) (by decide +kernel))) rfl
theorem wM_X8_152 : Cond.methodLink RX8 152 yX0_setWay ∈ tkTb := tk_tb (List.mem_append_right _ (List.mem_of_getElem? (i := 397) (by decide +kernel))) rfl
theorem wM_L_57 : Cond.methodLink RL 57 yX8_cost ∈ tkTb := tk_tb (List.mem_append_right _ (List.mem_of_getElem? (i := 401) (by decide +kernel))) rfl
theorem wM_X8_156 : Cond.methodLink RX8 156 yX2_between ∈ tkTb := tk_tb (List.mem_append_right _ (List.mem_of_getElem? (i := 405) (by decide +kernel))) rfl
theorem wM_X2_32 : Cond.methodLink RX2 32 yX5_takeLaid ∈ tkTb := tk_tb (List.mem_append_right _ (List.mem_of_getElem? (i := 409) (by decide +kernel))) rfl
theorem wM_X5_15 : Cond.methodLink RX5 15 yX0_firstLaid ∈ tkTb := tk_tb (List.mem_append_right _ (List.mem_of_getElem? (i := 413) (by decide +kernel))) rfl
theorem wM_X5_21 : Cond.methodLink RX5 21 yX0_laidLength ∈ tkTb := tk_tb (List.mem_append_right _ (List.mem_of_getElem? (i := 417) (by decide +kernel))) rfl
theorem wM_X5_24 : Cond.methodLink RX5 24 yX5_takePart ∈ tkTb := tk_tb (List.mem_append_right _ (List.mem_of_getElem? (i := 418) (by decide +kernel))) rfl
theorem wM_X5_36 : Cond.methodLink RX5 36 arraycopyName ∈ tkTb := tk_tb (List.mem_append_right _ (List.mem_of_getElem? (i := 422) (by decide +kernel))) rfl
theorem wM_X5_28 : Cond.methodLink RX5 28 yX0_isTorn ∈ tkTb := tk_tb (List.mem_append_right _ (List.mem_of_getElem? (i := 423) (by decide +kernel))) rfl
theorem wM_X2_46 : Cond.methodLink RX2 46 yX4_findLeast ∈ tkTb := tk_tb (List.mem_append_right _ (List.mem_of_getElem? (i := 428) (by decide +kernel))) rfl
theorem wM_X4_48 : Cond.methodLink RX4 48 yX4_carrySteps ∈ tkTb := tk_tb (List.mem_append_right _ (List.mem_of_getElem? (i := 435) (by decide +kernel))) rfl
theorem wM_X4_52 : Cond.methodLink RX4 52 yX4_fillRests ∈ tkTb := tk_tb (List.mem_append_right _ (List.mem_of_getElem? (i := 446) (by decide +kernel))) rfl
theorem wM_X4_82 : Cond.methodLink RX4 82 yX4_endPrice ∈ tkTb := tk_tb (List.mem_append_right _ (List.mem_of_getElem? (i := 450) (by decide +kernel))) rfl
theorem wM_X4_85 : Cond.methodLink RX4 85 yX4_pairPrice ∈ tkTb := tk_tb (List.mem_append_right _ (List.mem_of_getElem? (i := 454) (by decide +kernel))) rfl
theorem wM_X4_88 : Cond.methodLink RX4 88 yJ9_min_7cf53 ∈ tkTb := tk_tb (List.mem_append_right _ (List.mem_of_getElem? (i := 458) (by decide +kernel))) rfl
theorem wM_L_61 : Cond.methodLink RL 61 yX8_carried ∈ tkTb := tk_tb (List.mem_append_right _ (List.mem_of_getElem? (i := 459) (by decide +kernel))) rfl
theorem wM_X8_160 : Cond.methodLink RX8 160 yX2_layTales ∈ tkTb := tk_tb (List.mem_append_right _ (List.mem_of_getElem? (i := 463) (by decide +kernel))) rfl
theorem wM_X8_169 : Cond.methodLink RX8 169 yX8_goal ∈ tkTb := tk_tb (List.mem_append_right _ (List.mem_of_getElem? (i := 467) (by decide +kernel))) rfl
theorem wM_L_65 : Cond.methodLink RL 65 yX8_pair ∈ tkTb := tk_tb (List.mem_append_right _ (List.mem_of_getElem? (i := 468) (by decide +kernel))) rfl
theorem wM_X8_172 : Cond.methodLink RX8 172 yX0_firstLaid ∈ tkTb := tk_tb (List.mem_append_right _ (List.mem_of_getElem? (i := 472) (by decide +kernel))) rfl
theorem wM_X8_175 : Cond.methodLink RX8 175 yX2_pairTales ∈ tkTb := tk_tb (List.mem_append_right _ (List.mem_of_getElem? (i := 473) (by decide +kernel))) rfl
theorem wM_X2_65 : Cond.methodLink RX2 65 yX2_layTales ∈ tkTb := tk_tb (List.mem_append_right _ (List.mem_of_getElem? (i := 477) (by decide +kernel))) rfl
theorem wM_X2_69 : Cond.methodLink RX2 69 yX4_findPairs ∈ tkTb := tk_tb (List.mem_append_right _ (List.mem_of_getElem? (i := 478) (by decide +kernel))) rfl
theorem wM_X4_97 : Cond.methodLink RX4 97 yJ7_fill_53178 ∈ tkTb := tk_tb (List.mem_append_right _ (List.mem_of_getElem? (i := 482) (by decide +kernel))) rfl
theorem wM_L_69 : Cond.methodLink RL 69 yX8_pairs ∈ tkTb := tk_tb (List.mem_append_right _ (List.mem_of_getElem? (i := 483) (by decide +kernel))) rfl
theorem wM_X8_181 : Cond.methodLink RX8 181 yX4_howManyPairs ∈ tkTb := tk_tb (List.mem_append_right _ (List.mem_of_getElem? (i := 487) (by decide +kernel))) rfl
theorem wM_L_74 : Cond.methodLink RL 74 yX8_mould ∈ tkTb := tk_tb (List.mem_append_right _ (List.mem_of_getElem? (i := 491) (by decide +kernel))) rfl
theorem wM_X8_185 : Cond.methodLink RX8 185 yX8_heapRefusal ∈ tkTb := tk_tb (List.mem_append_right _ (List.mem_of_getElem? (i := 495) (by decide +kernel))) rfl
theorem wM_X8_188 : Cond.methodLink RX8 188 yX2_reckonHeap ∈ tkTb := tk_tb (List.mem_append_right _ (List.mem_of_getElem? (i := 499) (by decide +kernel))) rfl
theorem wM_X2_61 : Cond.methodLink RX2 61 yX2_between ∈ tkTb := tk_tb (List.mem_append_right _ (List.mem_of_getElem? (i := 506) (by decide +kernel))) rfl
theorem wM_X8_192 : Cond.methodLink RX8 192 yX8_mouldOf ∈ tkTb := tk_tb (List.mem_append_right _ (List.mem_of_getElem? (i := 507) (by decide +kernel))) rfl
theorem wM_X8_287 : Cond.methodLink RX8 287 yX8_isInHeap ∈ tkTb := tk_tb (List.mem_append_right _ (List.mem_of_getElem? (i := 511) (by decide +kernel))) rfl
theorem wM_X8_195 : Cond.methodLink RX8 195 yX8_sumOfCosts ∈ tkTb := tk_tb (List.mem_append_right _ (List.mem_of_getElem? (i := 512) (by decide +kernel))) rfl
theorem wM_L_78 : Cond.methodLink RL 78 yX8_spread ∈ tkTb := tk_tb (List.mem_append_right _ (List.mem_of_getElem? (i := 516) (by decide +kernel))) rfl
theorem wM_L_82 : Cond.methodLink RL 82 yX8_tree ∈ tkTb := tk_tb (List.mem_append_right _ (List.mem_of_getElem? (i := 520) (by decide +kernel))) rfl
theorem wM_X8_201 : Cond.methodLink RX8 201 yX7_grow ∈ tkTb := tk_tb (List.mem_append_right _ (List.mem_of_getElem? (i := 524) (by decide +kernel))) rfl
theorem wM_X7_25 : Cond.methodLink RX7 25 yJ6_bitCount_0f7a4 ∈ tkTb := tk_tb (List.mem_append_right _ (List.mem_of_getElem? (i := 528) (by decide +kernel))) rfl
theorem wM_X7_31 : Cond.methodLink RX7 31 yX7_addBranch ∈ tkTb := tk_tb (List.mem_append_right _ (List.mem_of_getElem? (i := 534) (by decide +kernel))) rfl
theorem wM_X7_39 : Cond.methodLink RX7 39 yX7_joinParts ∈ tkTb := tk_tb (List.mem_append_right _ (List.mem_of_getElem? (i := 539) (by decide +kernel))) rfl
theorem wM_L_86 : Cond.methodLink RL 86 yX8_branch ∈ tkTb := tk_tb (List.mem_append_right _ (List.mem_of_getElem? (i := 543) (by decide +kernel))) rfl
theorem wM_L_90 : Cond.methodLink RL 90 yX8_nearest ∈ tkTb := tk_tb (List.mem_append_right _ (List.mem_of_getElem? (i := 547) (by decide +kernel))) rfl
theorem wM_X8_214 : Cond.methodLink RX8 214 yX8_cheapestBeside ∈ tkTb := tk_tb (List.mem_append_right _ (List.mem_of_getElem? (i := 551) (by decide +kernel))) rfl
theorem wM_X8_290 : Cond.methodLink RX8 290 yX0_couldReach ∈ tkTb := tk_tb (List.mem_append_right _ (List.mem_of_getElem? (i := 555) (by decide +kernel))) rfl
theorem wM_X0_78 : Cond.methodLink RX0 78 yX0_wayBetween ∈ tkTb := tk_tb (List.mem_append_right _ (List.mem_of_getElem? (i := 559) (by decide +kernel))) rfl
theorem wM_L_94 : Cond.methodLink RL 94 yX8_source ∈ tkTb := tk_tb (List.mem_append_right _ (List.mem_of_getElem? (i := 560) (by decide +kernel))) rfl
theorem wM_X8_218 : Cond.methodLink RX8 218 yX8_sourceOf ∈ tkTb := tk_tb (List.mem_append_right _ (List.mem_of_getElem? (i := 564) (by decide +kernel))) rfl
theorem wM_L_98 : Cond.methodLink RL 98 yX8_first ∈ tkTb := tk_tb (List.mem_append_right _ (List.mem_of_getElem? (i := 568) (by decide +kernel))) rfl
theorem wM_L_102 : Cond.methodLink RL 102 yX8_borrowed ∈ tkTb := tk_tb (List.mem_append_right _ (List.mem_of_getElem? (i := 572) (by decide +kernel))) rfl
theorem wM_X8_221 : Cond.methodLink RX8 221 yX1_find ∈ tkTb := tk_tb (List.mem_append_right _ (List.mem_of_getElem? (i := 576) (by decide +kernel))) rfl
theorem wM_X1_27 : Cond.methodLink RX1 27 yJ9_min_7cf53 ∈ tkTb := tk_tb (List.mem_append_right _ (List.mem_of_getElem? (i := 580) (by decide +kernel))) rfl
theorem wM_X1_36 : Cond.methodLink RX1 36 yX1_sameFrom ∈ tkTb := tk_tb (List.mem_append_right _ (List.mem_of_getElem? (i := 581) (by decide +kernel))) rfl
theorem wM_X1_46 : Cond.methodLink RX1 46 yJ7_fill_53178 ∈ tkTb := tk_tb (List.mem_append_right _ (List.mem_of_getElem? (i := 585) (by decide +kernel))) rfl
theorem wM_X1_52 : Cond.methodLink RX1 52 yX1_isSame ∈ tkTb := tk_tb (List.mem_append_right _ (List.mem_of_getElem? (i := 586) (by decide +kernel))) rfl
theorem wM_X1_63 : Cond.methodLink RX1 63 yX1_leads ∈ tkTb := tk_tb (List.mem_append_right _ (List.mem_of_getElem? (i := 592) (by decide +kernel))) rfl
theorem wM_L_106 : Cond.methodLink RL 106 yX8_joined ∈ tkTb := tk_tb (List.mem_append_right _ (List.mem_of_getElem? (i := 597) (by decide +kernel))) rfl
theorem wM_X8_234 : Cond.methodLink RX8 234 yX2_ofPart ∈ tkTb := tk_tb (List.mem_append_right _ (List.mem_of_getElem? (i := 601) (by decide +kernel))) rfl
theorem wM_X2_72 : Cond.methodLink RX2 72 yX5_takePart ∈ tkTb := tk_tb (List.mem_append_right _ (List.mem_of_getElem? (i := 605) (by decide +kernel))) rfl
theorem wM_L_111 : Cond.methodLink RL 111 yX8_count ∈ tkTb := tk_tb (List.mem_append_right _ (List.mem_of_getElem? (i := 606) (by decide +kernel))) rfl
theorem wM_X8_238 : Cond.methodLink RX8 238 yX0_howOftenAt ∈ tkTb := tk_tb (List.mem_append_right _ (List.mem_of_getElem? (i := 610) (by decide +kernel))) rfl
theorem wM_X0_81 : Cond.methodLink RX0 81 yX0_isAt ∈ tkTb := tk_tb (List.mem_append_right _ (List.mem_of_getElem? (i := 614) (by decide +kernel))) rfl
theorem wM_X0_84 : Cond.methodLink RX0 84 yX0_howOften ∈ tkTb := tk_tb (List.mem_append_right _ (List.mem_of_getElem? (i := 618) (by decide +kernel))) rfl
theorem wM_X8_241 : Cond.methodLink RX8 241 yX0_doubtsAt ∈ tkTb := tk_tb (List.mem_append_right _ (List.mem_of_getElem? (i := 622) (by decide +kernel))) rfl
theorem wM_X0_87 : Cond.methodLink RX0 87 yX0_isTorn ∈ tkTb := tk_tb (List.mem_append_right _ (List.mem_of_getElem? (i := 626) (by decide +kernel))) rfl
theorem wM_L_115 : Cond.methodLink RL 115 yX8_home ∈ tkTb := tk_tb (List.mem_append_right _ (List.mem_of_getElem? (i := 627) (by decide +kernel))) rfl
theorem wM_L_119 : Cond.methodLink RL 119 yX8_sheet ∈ tkTb := tk_tb (List.mem_append_right _ (List.mem_of_getElem? (i := 631) (by decide +kernel))) rfl
theorem wM_X8_244 : Cond.methodLink RX8 244 yX6_makeAnew ∈ tkTb := tk_tb (List.mem_append_right _ (List.mem_of_getElem? (i := 635) (by decide +kernel))) rfl
theorem wM_X6_22 : Cond.methodLink RX6 22 yJ7_fill_53178 ∈ tkTb := tk_tb (List.mem_append_right _ (List.mem_of_getElem? (i := 639) (by decide +kernel))) rfl
theorem wM_L_123 : Cond.methodLink RL 123 yX8_put ∈ tkTb := tk_tb (List.mem_append_right _ (List.mem_of_getElem? (i := 640) (by decide +kernel))) rfl
theorem wM_X8_248 : Cond.methodLink RX8 248 yX6_isMissing ∈ tkTb := tk_tb (List.mem_append_right _ (List.mem_of_getElem? (i := 644) (by decide +kernel))) rfl
theorem wM_X8_253 : Cond.methodLink RX8 253 yX6_write ∈ tkTb := tk_tb (List.mem_append_right _ (List.mem_of_getElem? (i := 649) (by decide +kernel))) rfl
theorem wM_L_127 : Cond.methodLink RL 127 yX8_copy ∈ tkTb := tk_tb (List.mem_append_right _ (List.mem_of_getElem? (i := 654) (by decide +kernel))) rfl
theorem wM_X8_259 : Cond.methodLink RX8 259 yX6_holds ∈ tkTb := tk_tb (List.mem_append_right _ (List.mem_of_getElem? (i := 658) (by decide +kernel))) rfl
theorem wM_X8_265 : Cond.methodLink RX8 265 arraycopyName ∈ tkTb := tk_tb (List.mem_append_right _ (List.mem_of_getElem? (i := 662) (by decide +kernel))) rfl
theorem wM_L_132 : Cond.methodLink RL 132 yX8_lay ∈ tkTb := tk_tb (List.mem_append_right _ (List.mem_of_getElem? (i := 663) (by decide +kernel))) rfl
theorem wM_X8_271 : Cond.methodLink RX8 271 yX6_tellsSteps ∈ tkTb := tk_tb (List.mem_append_right _ (List.mem_of_getElem? (i := 667) (by decide +kernel))) rfl
theorem wM_X6_29 : Cond.methodLink RX6 29 yX6_howManySteps ∈ tkTb := tk_tb (List.mem_append_right _ (List.mem_of_getElem? (i := 671) (by decide +kernel))) rfl
theorem wM_X8_274 : Cond.methodLink RX8 274 yX6_howManySteps ∈ tkTb := tk_tb (List.mem_append_right _ (List.mem_of_getElem? (i := 676) (by decide +kernel))) rfl
theorem wM_X8_278 : Cond.methodLink RX8 278 yX6_stepAt ∈ tkTb := tk_tb (List.mem_append_right _ (List.mem_of_getElem? (i := 677) (by decide +kernel))) rfl
theorem wM_L_136 : Cond.methodLink RL 136 yX8_undo ∈ tkTb := tk_tb (List.mem_append_right _ (List.mem_of_getElem? (i := 682) (by decide +kernel))) rfl
theorem wM_X8_283 : Cond.methodLink RX8 283 yX3_giveBack ∈ tkTb := tk_tb (List.mem_append_right _ (List.mem_of_getElem? (i := 686) (by decide +kernel))) rfl
theorem wM_L_141 : Cond.methodLink RL 141 yX8_all ∈ tkTb := tk_tb (List.mem_append_right _ (List.mem_of_getElem? (i := 690) (by decide +kernel))) rfl
theorem wM_X8_286 : Cond.methodLink RX8 286 yX0_howManySteps ∈ tkTb := tk_tb (List.mem_append_right _ (List.mem_of_getElem? (i := 694) (by decide +kernel))) rfl
theorem wM_L_12 : Cond.methodLink RL 12 yX9_init ∈ tkTb := tk_tb (List.mem_append_right _ (List.mem_of_getElem? (i := 700) (by decide +kernel))) rfl
theorem wM_L_140 : Cond.methodLink RL 140 yX9_undo ∈ tkTb := tk_tb (List.mem_append_right _ (List.mem_of_getElem? (i := 792) (by decide +kernel))) rfl
theorem wM_X9_58 : Cond.methodLink RX9 58 yX9_finding ∈ tkTb := tk_tb (List.mem_append_right _ (List.mem_of_getElem? (i := 797) (by decide +kernel))) rfl
theorem wM_L_17 : Cond.methodLink RL 17 yX9_tale ∈ tkTb := tk_tb (List.mem_append_right _ (List.mem_of_getElem? (i := 801) (by decide +kernel))) rfl
theorem wM_X9_50 : Cond.methodLink RX9 50 yX9_within ∈ tkTb := tk_tb (List.mem_append_right _ (List.mem_of_getElem? (i := 805) (by decide +kernel))) rfl
theorem wM_X9_62 : Cond.methodLink RX9 62 yX9_isPlace ∈ tkTb := tk_tb (List.mem_append_right _ (List.mem_of_getElem? (i := 808) (by decide +kernel))) rfl
theorem wM_X9_68 : Cond.methodLink RX9 68 yX9_keep ∈ tkTb := tk_tb (List.mem_append_right _ (List.mem_of_getElem? (i := 813) (by decide +kernel))) rfl
theorem wM_L_22 : Cond.methodLink RL 22 yX9_as ∈ tkTb := tk_tb (List.mem_append_right _ (List.mem_of_getElem? (i := 817) (by decide +kernel))) rfl
theorem wM_X9_71 : Cond.methodLink RX9 71 yX9_isTale ∈ tkTb := tk_tb (List.mem_append_right _ (List.mem_of_getElem? (i := 821) (by decide +kernel))) rfl
theorem wM_L_27 : Cond.methodLink RL 27 yX9_step ∈ tkTb := tk_tb (List.mem_append_right _ (List.mem_of_getElem? (i := 826) (by decide +kernel))) rfl
theorem wM_X9_75 : Cond.methodLink RX9 75 yX9_isMotif ∈ tkTb := tk_tb (List.mem_append_right _ (List.mem_of_getElem? (i := 830) (by decide +kernel))) rfl
theorem wM_X9_78 : Cond.methodLink RX9 78 yX9_isRole ∈ tkTb := tk_tb (List.mem_append_right _ (List.mem_of_getElem? (i := 833) (by decide +kernel))) rfl
theorem wM_X9_81 : Cond.methodLink RX9 81 yX9_setStep ∈ tkTb := tk_tb (List.mem_append_right _ (List.mem_of_getElem? (i := 836) (by decide +kernel))) rfl
theorem wM_L_32 : Cond.methodLink RL 32 yX9_unstep ∈ tkTb := tk_tb (List.mem_append_right _ (List.mem_of_getElem? (i := 840) (by decide +kernel))) rfl
theorem wM_L_36 : Cond.methodLink RL 36 yX9_of ∈ tkTb := tk_tb (List.mem_append_right _ (List.mem_of_getElem? (i := 844) (by decide +kernel))) rfl
theorem wM_X9_85 : Cond.methodLink RX9 85 yX9_isStep ∈ tkTb := tk_tb (List.mem_append_right _ (List.mem_of_getElem? (i := 848) (by decide +kernel))) rfl
theorem wM_X9_89 : Cond.methodLink RX9 89 yX9_stepOf ∈ tkTb := tk_tb (List.mem_append_right _ (List.mem_of_getElem? (i := 852) (by decide +kernel))) rfl
theorem wM_L_40 : Cond.methodLink RL 40 yX9_told ∈ tkTb := tk_tb (List.mem_append_right _ (List.mem_of_getElem? (i := 856) (by decide +kernel))) rfl
theorem wM_X9_99 : Cond.methodLink RX9 99 yX9_laidTo ∈ tkTb := tk_tb (List.mem_append_right _ (List.mem_of_getElem? (i := 860) (by decide +kernel))) rfl
theorem wM_X9_96 : Cond.methodLink RX9 96 yX9_laidFrom ∈ tkTb := tk_tb (List.mem_append_right _ (List.mem_of_getElem? (i := 864) (by decide +kernel))) rfl
theorem wM_X9_93 : Cond.methodLink RX9 93 yX9_isCut ∈ tkTb := tk_tb (List.mem_append_right _ (List.mem_of_getElem? (i := 868) (by decide +kernel))) rfl
theorem wM_L_44 : Cond.methodLink RL 44 yX9_print ∈ tkTb := tk_tb (List.mem_append_right _ (List.mem_of_getElem? (i := 872) (by decide +kernel))) rfl
theorem wM_L_48 : Cond.methodLink RL 48 yX9_recode ∈ tkTb := tk_tb (List.mem_append_right _ (List.mem_of_getElem? (i := 877) (by decide +kernel))) rfl
theorem wM_L_52 : Cond.methodLink RL 52 yX9_price ∈ tkTb := tk_tb (List.mem_append_right _ (List.mem_of_getElem? (i := 881) (by decide +kernel))) rfl
theorem wM_L_56 : Cond.methodLink RL 56 yX9_way ∈ tkTb := tk_tb (List.mem_append_right _ (List.mem_of_getElem? (i := 885) (by decide +kernel))) rfl
theorem wM_L_60 : Cond.methodLink RL 60 yX9_cost ∈ tkTb := tk_tb (List.mem_append_right _ (List.mem_of_getElem? (i := 890) (by decide +kernel))) rfl
theorem wM_X9_172 : Cond.methodLink RX9 172 yX9_costOf ∈ tkTb := tk_tb (List.mem_append_right _ (List.mem_of_getElem? (i := 894) (by decide +kernel))) rfl
theorem wM_X9_164 : Cond.methodLink RX9 164 yX9_takeTwo ∈ tkTb := tk_tb (List.mem_append_right _ (List.mem_of_getElem? (i := 898) (by decide +kernel))) rfl
theorem wM_X9_113 : Cond.methodLink RX9 113 yX9_isTorn ∈ tkTb := tk_tb (List.mem_append_right _ (List.mem_of_getElem? (i := 902) (by decide +kernel))) rfl
theorem wM_X9_120 : Cond.methodLink RX9 120 yX9_takeOther ∈ tkTb := tk_tb (List.mem_append_right _ (List.mem_of_getElem? (i := 906) (by decide +kernel))) rfl
theorem wM_X9_168 : Cond.methodLink RX9 168 yX9_leastCost ∈ tkTb := tk_tb (List.mem_append_right _ (List.mem_of_getElem? (i := 910) (by decide +kernel))) rfl
theorem wM_X9_158 : Cond.methodLink RX9 158 yX9_layBy ∈ tkTb := tk_tb (List.mem_append_right _ (List.mem_of_getElem? (i := 915) (by decide +kernel))) rfl
theorem wM_X9_148 : Cond.methodLink RX9 148 yX9_carry ∈ tkTb := tk_tb (List.mem_append_right _ (List.mem_of_getElem? (i := 919) (by decide +kernel))) rfl
theorem wM_X9_152 : Cond.methodLink RX9 152 yX9_pairCost ∈ tkTb := tk_tb (List.mem_append_right _ (List.mem_of_getElem? (i := 923) (by decide +kernel))) rfl
theorem wM_X9_155 : Cond.methodLink RX9 155 yX9_leastFrom ∈ tkTb := tk_tb (List.mem_append_right _ (List.mem_of_getElem? (i := 927) (by decide +kernel))) rfl
theorem wM_X9_136 : Cond.methodLink RX9 136 yX9_pairsLeft ∈ tkTb := tk_tb (List.mem_append_right _ (List.mem_of_getElem? (i := 931) (by decide +kernel))) rfl
theorem wM_X9_140 : Cond.methodLink RX9 140 yX9_endCost ∈ tkTb := tk_tb (List.mem_append_right _ (List.mem_of_getElem? (i := 935) (by decide +kernel))) rfl
theorem wM_X9_143 : Cond.methodLink RX9 143 yJ9_min_7cf53 ∈ tkTb := tk_tb (List.mem_append_right _ (List.mem_of_getElem? (i := 939) (by decide +kernel))) rfl
theorem wM_L_64 : Cond.methodLink RL 64 yX9_carried ∈ tkTb := tk_tb (List.mem_append_right _ (List.mem_of_getElem? (i := 940) (by decide +kernel))) rfl
theorem wM_L_68 : Cond.methodLink RL 68 yX9_pair ∈ tkTb := tk_tb (List.mem_append_right _ (List.mem_of_getElem? (i := 944) (by decide +kernel))) rfl
theorem wM_X9_175 : Cond.methodLink RX9 175 yX9_findPairs ∈ tkTb := tk_tb (List.mem_append_right _ (List.mem_of_getElem? (i := 948) (by decide +kernel))) rfl
theorem wM_L_73 : Cond.methodLink RL 73 yX9_pairs ∈ tkTb := tk_tb (List.mem_append_right _ (List.mem_of_getElem? (i := 952) (by decide +kernel))) rfl
theorem wM_L_77 : Cond.methodLink RL 77 yX9_mould ∈ tkTb := tk_tb (List.mem_append_right _ (List.mem_of_getElem? (i := 956) (by decide +kernel))) rfl
theorem wM_X9_184 : Cond.methodLink RX9 184 yX9_noHeap ∈ tkTb := tk_tb (List.mem_append_right _ (List.mem_of_getElem? (i := 960) (by decide +kernel))) rfl
theorem wM_X9_187 : Cond.methodLink RX9 187 yX9_mouldOf ∈ tkTb := tk_tb (List.mem_append_right _ (List.mem_of_getElem? (i := 964) (by decide +kernel))) rfl
theorem wM_X9_181 : Cond.methodLink RX9 181 yX9_sumOf ∈ tkTb := tk_tb (List.mem_append_right _ (List.mem_of_getElem? (i := 968) (by decide +kernel))) rfl
theorem wM_L_81 : Cond.methodLink RL 81 yX9_spread ∈ tkTb := tk_tb (List.mem_append_right _ (List.mem_of_getElem? (i := 972) (by decide +kernel))) rfl
theorem wM_L_85 : Cond.methodLink RL 85 yX9_tree ∈ tkTb := tk_tb (List.mem_append_right _ (List.mem_of_getElem? (i := 976) (by decide +kernel))) rfl
theorem wM_X9_199 : Cond.methodLink RX9 199 yX9_findTree ∈ tkTb := tk_tb (List.mem_append_right _ (List.mem_of_getElem? (i := 980) (by decide +kernel))) rfl
theorem wM_X9_196 : Cond.methodLink RX9 196 yX9_nextBranch ∈ tkTb := tk_tb (List.mem_append_right _ (List.mem_of_getElem? (i := 984) (by decide +kernel))) rfl
theorem wM_L_89 : Cond.methodLink RL 89 yX9_branch ∈ tkTb := tk_tb (List.mem_append_right _ (List.mem_of_getElem? (i := 988) (by decide +kernel))) rfl
theorem wM_L_93 : Cond.methodLink RL 93 yX9_nearest ∈ tkTb := tk_tb (List.mem_append_right _ (List.mem_of_getElem? (i := 992) (by decide +kernel))) rfl
theorem wM_L_97 : Cond.methodLink RL 97 yX9_source ∈ tkTb := tk_tb (List.mem_append_right _ (List.mem_of_getElem? (i := 996) (by decide +kernel))) rfl
theorem wM_X9_202 : Cond.methodLink RX9 202 yX9_sourceOf ∈ tkTb := tk_tb (List.mem_append_right _ (List.mem_of_getElem? (i := 1000) (by decide +kernel))) rfl
theorem wM_L_101 : Cond.methodLink RL 101 yX9_first ∈ tkTb := tk_tb (List.mem_append_right _ (List.mem_of_getElem? (i := 1004) (by decide +kernel))) rfl
theorem wM_L_105 : Cond.methodLink RL 105 yX9_borrowed ∈ tkTb := tk_tb (List.mem_append_right _ (List.mem_of_getElem? (i := 1008) (by decide +kernel))) rfl
theorem wM_X9_222 : Cond.methodLink RX9 222 yX9_findPiece ∈ tkTb := tk_tb (List.mem_append_right _ (List.mem_of_getElem? (i := 1012) (by decide +kernel))) rfl
theorem wM_X9_212 : Cond.methodLink RX9 212 yX9_same ∈ tkTb := tk_tb (List.mem_append_right _ (List.mem_of_getElem? (i := 1016) (by decide +kernel))) rfl
theorem wM_X9_205 : Cond.methodLink RX9 205 yX9_isSame ∈ tkTb := tk_tb (List.mem_append_right _ (List.mem_of_getElem? (i := 1020) (by decide +kernel))) rfl
theorem wM_L_110 : Cond.methodLink RL 110 yX9_joined ∈ tkTb := tk_tb (List.mem_append_right _ (List.mem_of_getElem? (i := 1024) (by decide +kernel))) rfl
theorem wM_X9_225 : Cond.methodLink RX9 225 yX9_partCost ∈ tkTb := tk_tb (List.mem_append_right _ (List.mem_of_getElem? (i := 1028) (by decide +kernel))) rfl
theorem wM_L_114 : Cond.methodLink RL 114 yX9_count ∈ tkTb := tk_tb (List.mem_append_right _ (List.mem_of_getElem? (i := 1032) (by decide +kernel))) rfl
theorem wM_X9_228 : Cond.methodLink RX9 228 yX9_counts ∈ tkTb := tk_tb (List.mem_append_right _ (List.mem_of_getElem? (i := 1036) (by decide +kernel))) rfl
theorem wM_L_118 : Cond.methodLink RL 118 yX9_home ∈ tkTb := tk_tb (List.mem_append_right _ (List.mem_of_getElem? (i := 1040) (by decide +kernel))) rfl
theorem wM_L_122 : Cond.methodLink RL 122 yX9_sheet ∈ tkTb := tk_tb (List.mem_append_right _ (List.mem_of_getElem? (i := 1044) (by decide +kernel))) rfl
theorem wM_X9_232 : Cond.methodLink RX9 232 yX9_isSheet ∈ tkTb := tk_tb (List.mem_append_right _ (List.mem_of_getElem? (i := 1048) (by decide +kernel))) rfl
theorem wM_L_126 : Cond.methodLink RL 126 yX9_put ∈ tkTb := tk_tb (List.mem_append_right _ (List.mem_of_getElem? (i := 1051) (by decide +kernel))) rfl
theorem wM_L_131 : Cond.methodLink RL 131 yX9_copy ∈ tkTb := tk_tb (List.mem_append_right _ (List.mem_of_getElem? (i := 1056) (by decide +kernel))) rfl
theorem wM_L_135 : Cond.methodLink RL 135 yX9_lay ∈ tkTb := tk_tb (List.mem_append_right _ (List.mem_of_getElem? (i := 1060) (by decide +kernel))) rfl
theorem wM_L_144 : Cond.methodLink RL 144 yX9_all ∈ tkTb := tk_tb (List.mem_append_right _ (List.mem_of_getElem? (i := 1064) (by decide +kernel))) rfl
theorem wM_X8_9 : Cond.methodLinkNest RX8 9 yX0_init "TaleDesk" ∈ lw_tbl := (List.mem_append_right _ (List.mem_of_getElem? (i := 25) (by decide +kernel)))
theorem wM_X3_17 : Cond.methodLinkNest RX3 17 yX0_init "TaleDesk" ∈ lw_tbl := (List.mem_append_right _ (List.mem_of_getElem? (i := 78) (by decide +kernel)))
theorem wM_X2_11 : Cond.methodLinkNest RX2 11 yX4_init "TaleDesk" ∈ lw_tbl := (List.mem_append_right _ (List.mem_of_getElem? (i := 98) (by decide +kernel)))
theorem wM_X4_11 : Cond.methodLinkNest RX4 11 yX5_init "TaleDesk" ∈ lw_tbl := (List.mem_append_right _ (List.mem_of_getElem? (i := 104) (by decide +kernel)))
theorem wM_X8_32 : Cond.methodLinkNest RX8 32 yX7_init "TaleDesk" ∈ lw_tbl := (List.mem_append_right _ (List.mem_of_getElem? (i := 170) (by decide +kernel)))
theorem wM_X8_39 : Cond.methodLinkNest RX8 39 yX1_init "TaleDesk" ∈ lw_tbl := (List.mem_append_right _ (List.mem_of_getElem? (i := 192) (by decide +kernel)))
theorem wM_X8_50 : Cond.methodLinkNest RX8 50 yX6_init "TaleDesk" ∈ lw_tbl := (List.mem_append_right _ (List.mem_of_getElem? (i := 218) (by decide +kernel)))
theorem wM_X0_46 : Cond.methodLinkNest RX0 46 yX8_isWithin "TaleDesk" ∈ lw_tbl := (List.mem_append_right _ (List.mem_of_getElem? (i := 296) (by decide +kernel)))
theorem wM_X0_58 : Cond.methodLinkNest RX0 58 yX8_motifOf "TaleDesk" ∈ lw_tbl := (List.mem_append_right _ (List.mem_of_getElem? (i := 380) (by decide +kernel)))
theorem wM_X0_62 : Cond.methodLinkNest RX0 62 yX8_whoOf "TaleDesk" ∈ lw_tbl := (List.mem_append_right _ (List.mem_of_getElem? (i := 381) (by decide +kernel)))
theorem wM_X0_65 : Cond.methodLinkNest RX0 65 yX8_whomOf "TaleDesk" ∈ lw_tbl := (List.mem_append_right _ (List.mem_of_getElem? (i := 382) (by decide +kernel)))
theorem wM_X0_68 : Cond.methodLinkNest RX0 68 yX8_packed "TaleDesk" ∈ lw_tbl := (List.mem_append_right _ (List.mem_of_getElem? (i := 383) (by decide +kernel)))
theorem wM_X0_72 : Cond.methodLinkNest RX0 72 yX8_isUnder "TaleDesk" ∈ lw_tbl := (List.mem_append_right _ (List.mem_of_getElem? (i := 427) (by decide +kernel)))
theorem wM_X4_65 : Cond.methodLinkNest RX4 65 yX8_motifOf "TaleDesk" ∈ lw_tbl := (List.mem_append_right _ (List.mem_of_getElem? (i := 439) (by decide +kernel)))
theorem wM_X4_68 : Cond.methodLinkNest RX4 68 yX8_whoOf "TaleDesk" ∈ lw_tbl := (List.mem_append_right _ (List.mem_of_getElem? (i := 440) (by decide +kernel)))
theorem wM_X4_71 : Cond.methodLinkNest RX4 71 yX8_goal "TaleDesk" ∈ lw_tbl := (List.mem_append_right _ (List.mem_of_getElem? (i := 441) (by decide +kernel)))
theorem wM_X4_75 : Cond.methodLinkNest RX4 75 yX8_whomOf "TaleDesk" ∈ lw_tbl := (List.mem_append_right _ (List.mem_of_getElem? (i := 444) (by decide +kernel)))
theorem wM_X4_78 : Cond.methodLinkNest RX4 78 yX8_packed "TaleDesk" ∈ lw_tbl := (List.mem_append_right _ (List.mem_of_getElem? (i := 445) (by decide +kernel)))
theorem wM_X2_57 : Cond.methodLinkNest RX2 57 yX8_isInHeap "TaleDesk" ∈ lw_tbl := (List.mem_append_right _ (List.mem_of_getElem? (i := 503) (by decide +kernel)))
theorem wM_X7_35 : Cond.methodLinkNest RX7 35 yX8_isInHeap "TaleDesk" ∈ lw_tbl := (List.mem_append_right _ (List.mem_of_getElem? (i := 538) (by decide +kernel)))
theorem wM_X1_56 : Cond.methodLinkNest RX1 56 yX8_motifOf "TaleDesk" ∈ lw_tbl := (List.mem_append_right _ (List.mem_of_getElem? (i := 590) (by decide +kernel)))
theorem wM_X1_60 : Cond.methodLinkNest RX1 60 yX8_whoOf "TaleDesk" ∈ lw_tbl := (List.mem_append_right _ (List.mem_of_getElem? (i := 591) (by decide +kernel)))
theorem wM_X1_66 : Cond.methodLinkNest RX1 66 yX8_whomOf "TaleDesk" ∈ lw_tbl := (List.mem_append_right _ (List.mem_of_getElem? (i := 596) (by decide +kernel)))
theorem wM_X6_33 : Cond.methodLinkNest RX6 33 yX8_isStep "TaleDesk" ∈ lw_tbl := (List.mem_append_right _ (List.mem_of_getElem? (i := 675) (by decide +kernel)))
theorem wM_X6_37 : Cond.methodLinkNest RX6 37 yX8_packed "TaleDesk" ∈ lw_tbl := (List.mem_append_right _ (List.mem_of_getElem? (i := 681) (by decide +kernel)))
theorem wY_X0_init : tkY yX0_init cX0_init 1 none 0 := ⟨tk_tb (List.mem_append_right _ (List.mem_of_getElem? (i := 27) (by decide +kernel))) rfl, tk_tb (List.mem_append_right _ (List.mem_of_getElem? (i := 2) (by decide +kernel))) rfl, by decide +kernel, by decide +kernel, by decide +kernel⟩
theorem wI_X0_init : Cond.instanceMethod yX0_init ∈ tkTb := tk_tb (List.mem_append_right _ (List.mem_of_getElem? (i := 26) (by decide +kernel))) rfl
theorem wY_X0_takeFrom : tkY yX0_takeFrom cX0_takeFrom 2 none 1 := ⟨tk_tb (List.mem_append_right _ (List.mem_of_getElem? (i := 277) (by decide +kernel))) rfl, tk_tb (List.mem_append_right _ (List.mem_of_getElem? (i := 2) (by decide +kernel))) rfl, by decide +kernel, by decide +kernel, by decide +kernel⟩
theorem wI_X0_takeFrom : Cond.instanceMethod yX0_takeFrom ∈ tkTb := tk_tb (List.mem_append_right _ (List.mem_of_getElem? (i := 275) (by decide +kernel))) rfl
theorem wS_X0_takeFrom : Cond.selects RX0 yX0_takeFrom yX0_takeFrom ∈ tkTb := tk_tb (List.mem_append_right _ (List.mem_of_getElem? (i := 276) (by decide +kernel))) rfl
theorem wY_X0_hasTale : tkY yX0_hasTale cX0_hasTale 2 (some .boolean) 1 := ⟨tk_tb (List.mem_append_right _ (List.mem_of_getElem? (i := 295) (by decide +kernel))) rfl, tk_tb (List.mem_append_right _ (List.mem_of_getElem? (i := 2) (by decide +kernel))) rfl, by decide +kernel, by decide +kernel, by decide +kernel⟩
theorem wI_X0_hasTale : Cond.instanceMethod yX0_hasTale ∈ tkTb := tk_tb (List.mem_append_right _ (List.mem_of_getElem? (i := 293) (by decide +kernel))) rfl
theorem wS_X0_hasTale : Cond.selects RX0 yX0_hasTale yX0_hasTale ∈ tkTb := tk_tb (List.mem_append_right _ (List.mem_of_getElem? (i := 294) (by decide +kernel))) rfl
theorem wY_X0_hasStep : tkY yX0_hasStep cX0_hasStep 3 (some .boolean) 2 := ⟨tk_tb (List.mem_append_right _ (List.mem_of_getElem? (i := 331) (by decide +kernel))) rfl, tk_tb (List.mem_append_right _ (List.mem_of_getElem? (i := 2) (by decide +kernel))) rfl, by decide +kernel, by decide +kernel, by decide +kernel⟩
theorem wI_X0_hasStep : Cond.instanceMethod yX0_hasStep ∈ tkTb := tk_tb (List.mem_append_right _ (List.mem_of_getElem? (i := 329) (by decide +kernel))) rfl
theorem wS_X0_hasStep : Cond.selects RX0 yX0_hasStep yX0_hasStep ∈ tkTb := tk_tb (List.mem_append_right _ (List.mem_of_getElem? (i := 330) (by decide +kernel))) rfl
theorem wY_X0_stepAt : tkY yX0_stepAt cX0_stepAt 3 (some .int) 2 := ⟨tk_tb (List.mem_append_right _ (List.mem_of_getElem? (i := 336) (by decide +kernel))) rfl, tk_tb (List.mem_append_right _ (List.mem_of_getElem? (i := 2) (by decide +kernel))) rfl, by decide +kernel, by decide +kernel, by decide +kernel⟩
theorem wI_X0_stepAt : Cond.instanceMethod yX0_stepAt ∈ tkTb := tk_tb (List.mem_append_right _ (List.mem_of_getElem? (i := 334) (by decide +kernel))) rfl
theorem wS_X0_stepAt : Cond.selects RX0 yX0_stepAt yX0_stepAt ∈ tkTb := tk_tb (List.mem_append_right _ (List.mem_of_getElem? (i := 335) (by decide +kernel))) rfl
theorem wY_X0_addTale : tkY yX0_addTale cX0_addTale 5 (some .int) 3 := ⟨tk_tb (List.mem_append_right _ (List.mem_of_getElem? (i := 287) (by decide +kernel))) rfl, tk_tb (List.mem_append_right _ (List.mem_of_getElem? (i := 2) (by decide +kernel))) rfl, by decide +kernel, by decide +kernel, by decide +kernel⟩
theorem wI_X0_addTale : Cond.instanceMethod yX0_addTale ∈ tkTb := tk_tb (List.mem_append_right _ (List.mem_of_getElem? (i := 285) (by decide +kernel))) rfl
theorem wS_X0_addTale : Cond.selects RX0 yX0_addTale yX0_addTale ∈ tkTb := tk_tb (List.mem_append_right _ (List.mem_of_getElem? (i := 286) (by decide +kernel))) rfl
theorem wY_X0_addStep : tkY yX0_addStep cX0_addStep 3 none 2 := ⟨tk_tb (List.mem_append_right _ (List.mem_of_getElem? (i := 314) (by decide +kernel))) rfl, tk_tb (List.mem_append_right _ (List.mem_of_getElem? (i := 2) (by decide +kernel))) rfl, by decide +kernel, by decide +kernel, by decide +kernel⟩
theorem wI_X0_addStep : Cond.instanceMethod yX0_addStep ∈ tkTb := tk_tb (List.mem_append_right _ (List.mem_of_getElem? (i := 312) (by decide +kernel))) rfl
theorem wS_X0_addStep : Cond.selects RX0 yX0_addStep yX0_addStep ∈ tkTb := tk_tb (List.mem_append_right _ (List.mem_of_getElem? (i := 313) (by decide +kernel))) rfl
theorem wY_X0_changeMotif : tkY yX0_changeMotif cX0_changeMotif 7 (some .int) 2 := ⟨tk_tb (List.mem_append_right _ (List.mem_of_getElem? (i := 378) (by decide +kernel))) rfl, tk_tb (List.mem_append_right _ (List.mem_of_getElem? (i := 2) (by decide +kernel))) rfl, by decide +kernel, by decide +kernel, by decide +kernel⟩
theorem wI_X0_changeMotif : Cond.instanceMethod yX0_changeMotif ∈ tkTb := tk_tb (List.mem_append_right _ (List.mem_of_getElem? (i := 376) (by decide +kernel))) rfl
theorem wS_X0_changeMotif : Cond.selects RX0 yX0_changeMotif yX0_changeMotif ∈ tkTb := tk_tb (List.mem_append_right _ (List.mem_of_getElem? (i := 377) (by decide +kernel))) rfl
theorem wY_X0_isTorn : tkY yX0_isTorn cX0_isTorn 2 (some .boolean) 1 := ⟨tk_tb (List.mem_append_right _ (List.mem_of_getElem? (i := 426) (by decide +kernel))) rfl, tk_tb (List.mem_append_right _ (List.mem_of_getElem? (i := 2) (by decide +kernel))) rfl, by decide +kernel, by decide +kernel, by decide +kernel⟩
theorem wI_X0_isTorn : Cond.instanceMethod yX0_isTorn ∈ tkTb := tk_tb (List.mem_append_right _ (List.mem_of_getElem? (i := 424) (by decide +kernel))) rfl
theorem wS_X0_isTorn : Cond.selects RX0 yX0_isTorn yX0_isTorn ∈ tkTb := tk_tb (List.mem_append_right _ (List.mem_of_getElem? (i := 425) (by decide +kernel))) rfl
theorem wY_X0_isFramed : tkY yX0_isFramed cX0_isFramed 2 (some .boolean) 1 := ⟨tk_tb (List.mem_append_right _ (List.mem_of_getElem? (i := 357) (by decide +kernel))) rfl, tk_tb (List.mem_append_right _ (List.mem_of_getElem? (i := 2) (by decide +kernel))) rfl, by decide +kernel, by decide +kernel, by decide +kernel⟩
theorem wI_X0_isFramed : Cond.instanceMethod yX0_isFramed ∈ tkTb := tk_tb (List.mem_append_right _ (List.mem_of_getElem? (i := 355) (by decide +kernel))) rfl
theorem wS_X0_isFramed : Cond.selects RX0 yX0_isFramed yX0_isFramed ∈ tkTb := tk_tb (List.mem_append_right _ (List.mem_of_getElem? (i := 356) (by decide +kernel))) rfl
theorem wY_X0_firstLaid : tkY yX0_firstLaid cX0_firstLaid 2 (some .int) 1 := ⟨tk_tb (List.mem_append_right _ (List.mem_of_getElem? (i := 416) (by decide +kernel))) rfl, tk_tb (List.mem_append_right _ (List.mem_of_getElem? (i := 2) (by decide +kernel))) rfl, by decide +kernel, by decide +kernel, by decide +kernel⟩
theorem wI_X0_firstLaid : Cond.instanceMethod yX0_firstLaid ∈ tkTb := tk_tb (List.mem_append_right _ (List.mem_of_getElem? (i := 414) (by decide +kernel))) rfl
theorem wS_X0_firstLaid : Cond.selects RX0 yX0_firstLaid yX0_firstLaid ∈ tkTb := tk_tb (List.mem_append_right _ (List.mem_of_getElem? (i := 415) (by decide +kernel))) rfl
theorem wY_X0_laidLength : tkY yX0_laidLength cX0_laidLength 2 (some .int) 1 := ⟨tk_tb (List.mem_append_right _ (List.mem_of_getElem? (i := 353) (by decide +kernel))) rfl, tk_tb (List.mem_append_right _ (List.mem_of_getElem? (i := 2) (by decide +kernel))) rfl, by decide +kernel, by decide +kernel, by decide +kernel⟩
theorem wI_X0_laidLength : Cond.instanceMethod yX0_laidLength ∈ tkTb := tk_tb (List.mem_append_right _ (List.mem_of_getElem? (i := 351) (by decide +kernel))) rfl
theorem wS_X0_laidLength : Cond.selects RX0 yX0_laidLength yX0_laidLength ∈ tkTb := tk_tb (List.mem_append_right _ (List.mem_of_getElem? (i := 352) (by decide +kernel))) rfl
theorem wY_X0_printsLeadTo : tkY yX0_printsLeadTo cX0_printsLeadTo 5 (some .boolean) 2 := ⟨tk_tb (List.mem_append_right _ (List.mem_of_getElem? (i := 365) (by decide +kernel))) rfl, tk_tb (List.mem_append_right _ (List.mem_of_getElem? (i := 2) (by decide +kernel))) rfl, by decide +kernel, by decide +kernel, by decide +kernel⟩
theorem wI_X0_printsLeadTo : Cond.instanceMethod yX0_printsLeadTo ∈ tkTb := tk_tb (List.mem_append_right _ (List.mem_of_getElem? (i := 363) (by decide +kernel))) rfl
theorem wS_X0_printsLeadTo : Cond.selects RX0 yX0_printsLeadTo yX0_printsLeadTo ∈ tkTb := tk_tb (List.mem_append_right _ (List.mem_of_getElem? (i := 364) (by decide +kernel))) rfl
theorem wY_X0_wayBetween : tkY yX0_wayBetween cX0_wayBetween 3 (some .int) 2 := ⟨tk_tb (List.mem_append_right _ (List.mem_of_getElem? (i := 396) (by decide +kernel))) rfl, tk_tb (List.mem_append_right _ (List.mem_of_getElem? (i := 2) (by decide +kernel))) rfl, by decide +kernel, by decide +kernel, by decide +kernel⟩
theorem wI_X0_wayBetween : Cond.instanceMethod yX0_wayBetween ∈ tkTb := tk_tb (List.mem_append_right _ (List.mem_of_getElem? (i := 394) (by decide +kernel))) rfl
theorem wS_X0_wayBetween : Cond.selects RX0 yX0_wayBetween yX0_wayBetween ∈ tkTb := tk_tb (List.mem_append_right _ (List.mem_of_getElem? (i := 395) (by decide +kernel))) rfl
theorem wY_X0_setWay : tkY yX0_setWay cX0_setWay 4 none 3 := ⟨tk_tb (List.mem_append_right _ (List.mem_of_getElem? (i := 400) (by decide +kernel))) rfl, tk_tb (List.mem_append_right _ (List.mem_of_getElem? (i := 2) (by decide +kernel))) rfl, by decide +kernel, by decide +kernel, by decide +kernel⟩
theorem wI_X0_setWay : Cond.instanceMethod yX0_setWay ∈ tkTb := tk_tb (List.mem_append_right _ (List.mem_of_getElem? (i := 398) (by decide +kernel))) rfl
theorem wS_X0_setWay : Cond.selects RX0 yX0_setWay yX0_setWay ∈ tkTb := tk_tb (List.mem_append_right _ (List.mem_of_getElem? (i := 399) (by decide +kernel))) rfl
theorem wY_X0_couldReach : tkY yX0_couldReach cX0_couldReach 4 (some .boolean) 2 := ⟨tk_tb (List.mem_append_right _ (List.mem_of_getElem? (i := 558) (by decide +kernel))) rfl, tk_tb (List.mem_append_right _ (List.mem_of_getElem? (i := 2) (by decide +kernel))) rfl, by decide +kernel, by decide +kernel, by decide +kernel⟩
theorem wI_X0_couldReach : Cond.instanceMethod yX0_couldReach ∈ tkTb := tk_tb (List.mem_append_right _ (List.mem_of_getElem? (i := 556) (by decide +kernel))) rfl
theorem wS_X0_couldReach : Cond.selects RX0 yX0_couldReach yX0_couldReach ∈ tkTb := tk_tb (List.mem_append_right _ (List.mem_of_getElem? (i := 557) (by decide +kernel))) rfl
theorem wY_X0_howManySteps : tkY yX0_howManySteps cX0_howManySteps 3 (some .int) 0 := ⟨tk_tb (List.mem_append_right _ (List.mem_of_getElem? (i := 697) (by decide +kernel))) rfl, tk_tb (List.mem_append_right _ (List.mem_of_getElem? (i := 2) (by decide +kernel))) rfl, by decide +kernel, by decide +kernel, by decide +kernel⟩
theorem wI_X0_howManySteps : Cond.instanceMethod yX0_howManySteps ∈ tkTb := tk_tb (List.mem_append_right _ (List.mem_of_getElem? (i := 695) (by decide +kernel))) rfl
theorem wS_X0_howManySteps : Cond.selects RX0 yX0_howManySteps yX0_howManySteps ∈ tkTb := tk_tb (List.mem_append_right _ (List.mem_of_getElem? (i := 696) (by decide +kernel))) rfl
theorem wY_X0_howOften : tkY yX0_howOften cX0_howOften 5 (some .int) 2 := ⟨tk_tb (List.mem_append_right _ (List.mem_of_getElem? (i := 621) (by decide +kernel))) rfl, tk_tb (List.mem_append_right _ (List.mem_of_getElem? (i := 2) (by decide +kernel))) rfl, by decide +kernel, by decide +kernel, by decide +kernel⟩
theorem wI_X0_howOften : Cond.instanceMethod yX0_howOften ∈ tkTb := tk_tb (List.mem_append_right _ (List.mem_of_getElem? (i := 619) (by decide +kernel))) rfl
theorem wS_X0_howOften : Cond.selects RX0 yX0_howOften yX0_howOften ∈ tkTb := tk_tb (List.mem_append_right _ (List.mem_of_getElem? (i := 620) (by decide +kernel))) rfl
theorem wY_X0_howOftenAt : tkY yX0_howOftenAt cX0_howOftenAt 5 (some .int) 2 := ⟨tk_tb (List.mem_append_right _ (List.mem_of_getElem? (i := 613) (by decide +kernel))) rfl, tk_tb (List.mem_append_right _ (List.mem_of_getElem? (i := 2) (by decide +kernel))) rfl, by decide +kernel, by decide +kernel, by decide +kernel⟩
theorem wI_X0_howOftenAt : Cond.instanceMethod yX0_howOftenAt ∈ tkTb := tk_tb (List.mem_append_right _ (List.mem_of_getElem? (i := 611) (by decide +kernel))) rfl
theorem wS_X0_howOftenAt : Cond.selects RX0 yX0_howOftenAt yX0_howOftenAt ∈ tkTb := tk_tb (List.mem_append_right _ (List.mem_of_getElem? (i := 612) (by decide +kernel))) rfl
theorem wY_X0_doubtsAt : tkY yX0_doubtsAt cX0_doubtsAt 4 (some .int) 1 := ⟨tk_tb (List.mem_append_right _ (List.mem_of_getElem? (i := 625) (by decide +kernel))) rfl, tk_tb (List.mem_append_right _ (List.mem_of_getElem? (i := 2) (by decide +kernel))) rfl, by decide +kernel, by decide +kernel, by decide +kernel⟩
theorem wI_X0_doubtsAt : Cond.instanceMethod yX0_doubtsAt ∈ tkTb := tk_tb (List.mem_append_right _ (List.mem_of_getElem? (i := 623) (by decide +kernel))) rfl
theorem wS_X0_doubtsAt : Cond.selects RX0 yX0_doubtsAt yX0_doubtsAt ∈ tkTb := tk_tb (List.mem_append_right _ (List.mem_of_getElem? (i := 624) (by decide +kernel))) rfl
theorem wY_X0_isAt : tkY yX0_isAt cX0_isAt 3 (some .boolean) 2 := ⟨tk_tb (List.mem_append_right _ (List.mem_of_getElem? (i := 617) (by decide +kernel))) rfl, tk_tb (List.mem_append_right _ (List.mem_of_getElem? (i := 2) (by decide +kernel))) rfl, by decide +kernel, by decide +kernel, by decide +kernel⟩
theorem wI_X0_isAt : Cond.instanceMethod yX0_isAt ∈ tkTb := tk_tb (List.mem_append_right _ (List.mem_of_getElem? (i := 615) (by decide +kernel))) rfl
theorem wS_X0_isAt : Cond.selects RX0 yX0_isAt yX0_isAt ∈ tkTb := tk_tb (List.mem_append_right _ (List.mem_of_getElem? (i := 616) (by decide +kernel))) rfl
theorem wY_X1_init : tkY yX1_init cX1_init 1 none 0 := ⟨tk_tb (List.mem_append_right _ (List.mem_of_getElem? (i := 194) (by decide +kernel))) rfl, tk_tb (List.mem_append_right _ (List.mem_of_getElem? (i := 9) (by decide +kernel))) rfl, by decide +kernel, by decide +kernel, by decide +kernel⟩
theorem wI_X1_init : Cond.instanceMethod yX1_init ∈ tkTb := tk_tb (List.mem_append_right _ (List.mem_of_getElem? (i := 193) (by decide +kernel))) rfl
theorem wY_X1_find : tkY yX1_find cX1_find 8 none 3 := ⟨tk_tb (List.mem_append_right _ (List.mem_of_getElem? (i := 579) (by decide +kernel))) rfl, tk_tb (List.mem_append_right _ (List.mem_of_getElem? (i := 9) (by decide +kernel))) rfl, by decide +kernel, by decide +kernel, by decide +kernel⟩
theorem wI_X1_find : Cond.instanceMethod yX1_find ∈ tkTb := tk_tb (List.mem_append_right _ (List.mem_of_getElem? (i := 577) (by decide +kernel))) rfl
theorem wS_X1_find : Cond.selects RX1 yX1_find yX1_find ∈ tkTb := tk_tb (List.mem_append_right _ (List.mem_of_getElem? (i := 578) (by decide +kernel))) rfl
theorem wY_X1_sameFrom : tkY yX1_sameFrom cX1_sameFrom 6 (some .int) 4 := ⟨tk_tb (List.mem_append_right _ (List.mem_of_getElem? (i := 584) (by decide +kernel))) rfl, tk_tb (List.mem_append_right _ (List.mem_of_getElem? (i := 9) (by decide +kernel))) rfl, by decide +kernel, by decide +kernel, by decide +kernel⟩
theorem wI_X1_sameFrom : Cond.instanceMethod yX1_sameFrom ∈ tkTb := tk_tb (List.mem_append_right _ (List.mem_of_getElem? (i := 582) (by decide +kernel))) rfl
theorem wS_X1_sameFrom : Cond.selects RX1 yX1_sameFrom yX1_sameFrom ∈ tkTb := tk_tb (List.mem_append_right _ (List.mem_of_getElem? (i := 583) (by decide +kernel))) rfl
theorem wY_X1_isSame : tkY yX1_isSame cX1_isSame 3 (some .boolean) 2 := ⟨tk_tb (List.mem_append_right _ (List.mem_of_getElem? (i := 589) (by decide +kernel))) rfl, tk_tb (List.mem_append_right _ (List.mem_of_getElem? (i := 9) (by decide +kernel))) rfl, by decide +kernel, by decide +kernel, by decide +kernel⟩
theorem wI_X1_isSame : Cond.instanceMethod yX1_isSame ∈ tkTb := tk_tb (List.mem_append_right _ (List.mem_of_getElem? (i := 587) (by decide +kernel))) rfl
theorem wS_X1_isSame : Cond.selects RX1 yX1_isSame yX1_isSame ∈ tkTb := tk_tb (List.mem_append_right _ (List.mem_of_getElem? (i := 588) (by decide +kernel))) rfl
theorem wY_X1_leads : tkY yX1_leads cX1_leads 3 (some .boolean) 2 := ⟨tk_tb (List.mem_append_right _ (List.mem_of_getElem? (i := 595) (by decide +kernel))) rfl, tk_tb (List.mem_append_right _ (List.mem_of_getElem? (i := 9) (by decide +kernel))) rfl, by decide +kernel, by decide +kernel, by decide +kernel⟩
theorem wI_X1_leads : Cond.instanceMethod yX1_leads ∈ tkTb := tk_tb (List.mem_append_right _ (List.mem_of_getElem? (i := 593) (by decide +kernel))) rfl
theorem wS_X1_leads : Cond.selects RX1 yX1_leads yX1_leads ∈ tkTb := tk_tb (List.mem_append_right _ (List.mem_of_getElem? (i := 594) (by decide +kernel))) rfl
theorem wY_X2_init : tkY yX2_init cX2_init 1 none 0 := ⟨tk_tb (List.mem_append_right _ (List.mem_of_getElem? (i := 94) (by decide +kernel))) rfl, tk_tb (List.mem_append_right _ (List.mem_of_getElem? (i := 4) (by decide +kernel))) rfl, by decide +kernel, by decide +kernel, by decide +kernel⟩
theorem wI_X2_init : Cond.instanceMethod yX2_init ∈ tkTb := tk_tb (List.mem_append_right _ (List.mem_of_getElem? (i := 93) (by decide +kernel))) rfl
theorem wY_X2_forget : tkY yX2_forget cX2_forget 3 none 1 := ⟨tk_tb (List.mem_append_right _ (List.mem_of_getElem? (i := 318) (by decide +kernel))) rfl, tk_tb (List.mem_append_right _ (List.mem_of_getElem? (i := 4) (by decide +kernel))) rfl, by decide +kernel, by decide +kernel, by decide +kernel⟩
theorem wI_X2_forget : Cond.instanceMethod yX2_forget ∈ tkTb := tk_tb (List.mem_append_right _ (List.mem_of_getElem? (i := 316) (by decide +kernel))) rfl
theorem wS_X2_forget : Cond.selects RX2 yX2_forget yX2_forget ∈ tkTb := tk_tb (List.mem_append_right _ (List.mem_of_getElem? (i := 317) (by decide +kernel))) rfl
theorem wY_X2_forgetAll : tkY yX2_forgetAll cX2_forgetAll 1 none 0 := ⟨tk_tb (List.mem_append_right _ (List.mem_of_getElem? (i := 374) (by decide +kernel))) rfl, tk_tb (List.mem_append_right _ (List.mem_of_getElem? (i := 4) (by decide +kernel))) rfl, by decide +kernel, by decide +kernel, by decide +kernel⟩
theorem wI_X2_forgetAll : Cond.instanceMethod yX2_forgetAll ∈ tkTb := tk_tb (List.mem_append_right _ (List.mem_of_getElem? (i := 372) (by decide +kernel))) rfl
theorem wS_X2_forgetAll : Cond.selects RX2 yX2_forgetAll yX2_forgetAll ∈ tkTb := tk_tb (List.mem_append_right _ (List.mem_of_getElem? (i := 373) (by decide +kernel))) rfl
theorem wY_X2_between : tkY yX2_between cX2_between 5 (some .int) 3 := ⟨tk_tb (List.mem_append_right _ (List.mem_of_getElem? (i := 408) (by decide +kernel))) rfl, tk_tb (List.mem_append_right _ (List.mem_of_getElem? (i := 4) (by decide +kernel))) rfl, by decide +kernel, by decide +kernel, by decide +kernel⟩
theorem wI_X2_between : Cond.instanceMethod yX2_between ∈ tkTb := tk_tb (List.mem_append_right _ (List.mem_of_getElem? (i := 406) (by decide +kernel))) rfl
theorem wS_X2_between : Cond.selects RX2 yX2_between yX2_between ∈ tkTb := tk_tb (List.mem_append_right _ (List.mem_of_getElem? (i := 407) (by decide +kernel))) rfl
theorem wY_X2_reckonHeap : tkY yX2_reckonHeap cX2_reckonHeap 5 none 2 := ⟨tk_tb (List.mem_append_right _ (List.mem_of_getElem? (i := 502) (by decide +kernel))) rfl, tk_tb (List.mem_append_right _ (List.mem_of_getElem? (i := 4) (by decide +kernel))) rfl, by decide +kernel, by decide +kernel, by decide +kernel⟩
theorem wI_X2_reckonHeap : Cond.instanceMethod yX2_reckonHeap ∈ tkTb := tk_tb (List.mem_append_right _ (List.mem_of_getElem? (i := 500) (by decide +kernel))) rfl
theorem wS_X2_reckonHeap : Cond.selects RX2 yX2_reckonHeap yX2_reckonHeap ∈ tkTb := tk_tb (List.mem_append_right _ (List.mem_of_getElem? (i := 501) (by decide +kernel))) rfl
theorem wY_X2_layTales : tkY yX2_layTales cX2_layTales 4 (some (.object "TaleDesk$Laying")) 3 := ⟨tk_tb (List.mem_append_right _ (List.mem_of_getElem? (i := 466) (by decide +kernel))) rfl, tk_tb (List.mem_append_right _ (List.mem_of_getElem? (i := 4) (by decide +kernel))) rfl, by decide +kernel, by decide +kernel, by decide +kernel⟩
theorem wI_X2_layTales : Cond.instanceMethod yX2_layTales ∈ tkTb := tk_tb (List.mem_append_right _ (List.mem_of_getElem? (i := 464) (by decide +kernel))) rfl
theorem wS_X2_layTales : Cond.selects RX2 yX2_layTales yX2_layTales ∈ tkTb := tk_tb (List.mem_append_right _ (List.mem_of_getElem? (i := 465) (by decide +kernel))) rfl
theorem wY_X2_pairTales : tkY yX2_pairTales cX2_pairTales 4 (some (.object "TaleDesk$Laying")) 3 := ⟨tk_tb (List.mem_append_right _ (List.mem_of_getElem? (i := 476) (by decide +kernel))) rfl, tk_tb (List.mem_append_right _ (List.mem_of_getElem? (i := 4) (by decide +kernel))) rfl, by decide +kernel, by decide +kernel, by decide +kernel⟩
theorem wI_X2_pairTales : Cond.instanceMethod yX2_pairTales ∈ tkTb := tk_tb (List.mem_append_right _ (List.mem_of_getElem? (i := 474) (by decide +kernel))) rfl
theorem wS_X2_pairTales : Cond.selects RX2 yX2_pairTales yX2_pairTales ∈ tkTb := tk_tb (List.mem_append_right _ (List.mem_of_getElem? (i := 475) (by decide +kernel))) rfl
theorem wY_X2_ofPart : tkY yX2_ofPart cX2_ofPart 6 (some .int) 5 := ⟨tk_tb (List.mem_append_right _ (List.mem_of_getElem? (i := 604) (by decide +kernel))) rfl, tk_tb (List.mem_append_right _ (List.mem_of_getElem? (i := 4) (by decide +kernel))) rfl, by decide +kernel, by decide +kernel, by decide +kernel⟩
theorem wI_X2_ofPart : Cond.instanceMethod yX2_ofPart ∈ tkTb := tk_tb (List.mem_append_right _ (List.mem_of_getElem? (i := 602) (by decide +kernel))) rfl
theorem wS_X2_ofPart : Cond.selects RX2 yX2_ofPart yX2_ofPart ∈ tkTb := tk_tb (List.mem_append_right _ (List.mem_of_getElem? (i := 603) (by decide +kernel))) rfl
theorem wY_X3_init : tkY yX3_init cX3_init 2 none 0 := ⟨tk_tb (List.mem_append_right _ (List.mem_of_getElem? (i := 74) (by decide +kernel))) rfl, tk_tb (List.mem_append_right _ (List.mem_of_getElem? (i := 3) (by decide +kernel))) rfl, by decide +kernel, by decide +kernel, by decide +kernel⟩
theorem wI_X3_init : Cond.instanceMethod yX3_init ∈ tkTb := tk_tb (List.mem_append_right _ (List.mem_of_getElem? (i := 73) (by decide +kernel))) rfl
theorem wY_X3_keep : tkY yX3_keep cX3_keep 2 none 1 := ⟨tk_tb (List.mem_append_right _ (List.mem_of_getElem? (i := 273) (by decide +kernel))) rfl, tk_tb (List.mem_append_right _ (List.mem_of_getElem? (i := 3) (by decide +kernel))) rfl, by decide +kernel, by decide +kernel, by decide +kernel⟩
theorem wI_X3_keep : Cond.instanceMethod yX3_keep ∈ tkTb := tk_tb (List.mem_append_right _ (List.mem_of_getElem? (i := 271) (by decide +kernel))) rfl
theorem wS_X3_keep : Cond.selects RX3 yX3_keep yX3_keep ∈ tkTb := tk_tb (List.mem_append_right _ (List.mem_of_getElem? (i := 272) (by decide +kernel))) rfl
theorem wY_X3_giveBack : tkY yX3_giveBack cX3_giveBack 2 none 1 := ⟨tk_tb (List.mem_append_right _ (List.mem_of_getElem? (i := 689) (by decide +kernel))) rfl, tk_tb (List.mem_append_right _ (List.mem_of_getElem? (i := 3) (by decide +kernel))) rfl, by decide +kernel, by decide +kernel, by decide +kernel⟩
theorem wI_X3_giveBack : Cond.instanceMethod yX3_giveBack ∈ tkTb := tk_tb (List.mem_append_right _ (List.mem_of_getElem? (i := 687) (by decide +kernel))) rfl
theorem wS_X3_giveBack : Cond.selects RX3 yX3_giveBack yX3_giveBack ∈ tkTb := tk_tb (List.mem_append_right _ (List.mem_of_getElem? (i := 688) (by decide +kernel))) rfl
theorem wY_X4_init : tkY yX4_init cX4_init 1 none 0 := ⟨tk_tb (List.mem_append_right _ (List.mem_of_getElem? (i := 100) (by decide +kernel))) rfl, tk_tb (List.mem_append_right _ (List.mem_of_getElem? (i := 5) (by decide +kernel))) rfl, by decide +kernel, by decide +kernel, by decide +kernel⟩
theorem wI_X4_init : Cond.instanceMethod yX4_init ∈ tkTb := tk_tb (List.mem_append_right _ (List.mem_of_getElem? (i := 99) (by decide +kernel))) rfl
theorem wY_X4_findLeast : tkY yX4_findLeast cX4_findLeast 4 none 1 := ⟨tk_tb (List.mem_append_right _ (List.mem_of_getElem? (i := 431) (by decide +kernel))) rfl, tk_tb (List.mem_append_right _ (List.mem_of_getElem? (i := 5) (by decide +kernel))) rfl, by decide +kernel, by decide +kernel, by decide +kernel⟩
theorem wI_X4_findLeast : Cond.instanceMethod yX4_findLeast ∈ tkTb := tk_tb (List.mem_append_right _ (List.mem_of_getElem? (i := 429) (by decide +kernel))) rfl
theorem wS_X4_findLeast : Cond.selects RX4 yX4_findLeast yX4_findLeast ∈ tkTb := tk_tb (List.mem_append_right _ (List.mem_of_getElem? (i := 430) (by decide +kernel))) rfl
theorem wY_X4_carrySteps : tkY yX4_carrySteps cX4_carrySteps 4 none 1 := ⟨tk_tb (List.mem_append_right _ (List.mem_of_getElem? (i := 438) (by decide +kernel))) rfl, tk_tb (List.mem_append_right _ (List.mem_of_getElem? (i := 5) (by decide +kernel))) rfl, by decide +kernel, by decide +kernel, by decide +kernel⟩
theorem wI_X4_carrySteps : Cond.instanceMethod yX4_carrySteps ∈ tkTb := tk_tb (List.mem_append_right _ (List.mem_of_getElem? (i := 436) (by decide +kernel))) rfl
theorem wS_X4_carrySteps : Cond.selects RX4 yX4_carrySteps yX4_carrySteps ∈ tkTb := tk_tb (List.mem_append_right _ (List.mem_of_getElem? (i := 437) (by decide +kernel))) rfl
theorem wY_X4_fillRests : tkY yX4_fillRests cX4_fillRests 7 (some .int) 1 := ⟨tk_tb (List.mem_append_right _ (List.mem_of_getElem? (i := 449) (by decide +kernel))) rfl, tk_tb (List.mem_append_right _ (List.mem_of_getElem? (i := 5) (by decide +kernel))) rfl, by decide +kernel, by decide +kernel, by decide +kernel⟩
theorem wI_X4_fillRests : Cond.instanceMethod yX4_fillRests ∈ tkTb := tk_tb (List.mem_append_right _ (List.mem_of_getElem? (i := 447) (by decide +kernel))) rfl
theorem wS_X4_fillRests : Cond.selects RX4 yX4_fillRests yX4_fillRests ∈ tkTb := tk_tb (List.mem_append_right _ (List.mem_of_getElem? (i := 448) (by decide +kernel))) rfl
theorem wY_X4_endPrice : tkY yX4_endPrice cX4_endPrice 5 (some .int) 2 := ⟨tk_tb (List.mem_append_right _ (List.mem_of_getElem? (i := 453) (by decide +kernel))) rfl, tk_tb (List.mem_append_right _ (List.mem_of_getElem? (i := 5) (by decide +kernel))) rfl, by decide +kernel, by decide +kernel, by decide +kernel⟩
theorem wI_X4_endPrice : Cond.instanceMethod yX4_endPrice ∈ tkTb := tk_tb (List.mem_append_right _ (List.mem_of_getElem? (i := 451) (by decide +kernel))) rfl
theorem wS_X4_endPrice : Cond.selects RX4 yX4_endPrice yX4_endPrice ∈ tkTb := tk_tb (List.mem_append_right _ (List.mem_of_getElem? (i := 452) (by decide +kernel))) rfl
theorem wY_X4_pairPrice : tkY yX4_pairPrice cX4_pairPrice 5 (some .int) 2 := ⟨tk_tb (List.mem_append_right _ (List.mem_of_getElem? (i := 457) (by decide +kernel))) rfl, tk_tb (List.mem_append_right _ (List.mem_of_getElem? (i := 5) (by decide +kernel))) rfl, by decide +kernel, by decide +kernel, by decide +kernel⟩
theorem wI_X4_pairPrice : Cond.instanceMethod yX4_pairPrice ∈ tkTb := tk_tb (List.mem_append_right _ (List.mem_of_getElem? (i := 455) (by decide +kernel))) rfl
theorem wS_X4_pairPrice : Cond.selects RX4 yX4_pairPrice yX4_pairPrice ∈ tkTb := tk_tb (List.mem_append_right _ (List.mem_of_getElem? (i := 456) (by decide +kernel))) rfl
theorem wY_X4_findPairs : tkY yX4_findPairs cX4_findPairs 9 none 0 := ⟨tk_tb (List.mem_append_right _ (List.mem_of_getElem? (i := 481) (by decide +kernel))) rfl, tk_tb (List.mem_append_right _ (List.mem_of_getElem? (i := 5) (by decide +kernel))) rfl, by decide +kernel, by decide +kernel, by decide +kernel⟩
theorem wI_X4_findPairs : Cond.instanceMethod yX4_findPairs ∈ tkTb := tk_tb (List.mem_append_right _ (List.mem_of_getElem? (i := 479) (by decide +kernel))) rfl
theorem wS_X4_findPairs : Cond.selects RX4 yX4_findPairs yX4_findPairs ∈ tkTb := tk_tb (List.mem_append_right _ (List.mem_of_getElem? (i := 480) (by decide +kernel))) rfl
theorem wY_X4_howManyPairs : tkY yX4_howManyPairs cX4_howManyPairs 5 (some .int) 1 := ⟨tk_tb (List.mem_append_right _ (List.mem_of_getElem? (i := 490) (by decide +kernel))) rfl, tk_tb (List.mem_append_right _ (List.mem_of_getElem? (i := 5) (by decide +kernel))) rfl, by decide +kernel, by decide +kernel, by decide +kernel⟩
theorem wI_X4_howManyPairs : Cond.instanceMethod yX4_howManyPairs ∈ tkTb := tk_tb (List.mem_append_right _ (List.mem_of_getElem? (i := 488) (by decide +kernel))) rfl
theorem wS_X4_howManyPairs : Cond.selects RX4 yX4_howManyPairs yX4_howManyPairs ∈ tkTb := tk_tb (List.mem_append_right _ (List.mem_of_getElem? (i := 489) (by decide +kernel))) rfl
theorem wY_X5_init : tkY yX5_init cX5_init 1 none 0 := ⟨tk_tb (List.mem_append_right _ (List.mem_of_getElem? (i := 106) (by decide +kernel))) rfl, tk_tb (List.mem_append_right _ (List.mem_of_getElem? (i := 6) (by decide +kernel))) rfl, by decide +kernel, by decide +kernel, by decide +kernel⟩
theorem wI_X5_init : Cond.instanceMethod yX5_init ∈ tkTb := tk_tb (List.mem_append_right _ (List.mem_of_getElem? (i := 105) (by decide +kernel))) rfl
theorem wY_X5_takeLaid : tkY yX5_takeLaid cX5_takeLaid 3 none 2 := ⟨tk_tb (List.mem_append_right _ (List.mem_of_getElem? (i := 412) (by decide +kernel))) rfl, tk_tb (List.mem_append_right _ (List.mem_of_getElem? (i := 6) (by decide +kernel))) rfl, by decide +kernel, by decide +kernel, by decide +kernel⟩
theorem wI_X5_takeLaid : Cond.instanceMethod yX5_takeLaid ∈ tkTb := tk_tb (List.mem_append_right _ (List.mem_of_getElem? (i := 410) (by decide +kernel))) rfl
theorem wS_X5_takeLaid : Cond.selects RX5 yX5_takeLaid yX5_takeLaid ∈ tkTb := tk_tb (List.mem_append_right _ (List.mem_of_getElem? (i := 411) (by decide +kernel))) rfl
theorem wY_X5_takePart : tkY yX5_takePart cX5_takePart 5 none 4 := ⟨tk_tb (List.mem_append_right _ (List.mem_of_getElem? (i := 421) (by decide +kernel))) rfl, tk_tb (List.mem_append_right _ (List.mem_of_getElem? (i := 6) (by decide +kernel))) rfl, by decide +kernel, by decide +kernel, by decide +kernel⟩
theorem wI_X5_takePart : Cond.instanceMethod yX5_takePart ∈ tkTb := tk_tb (List.mem_append_right _ (List.mem_of_getElem? (i := 419) (by decide +kernel))) rfl
theorem wS_X5_takePart : Cond.selects RX5 yX5_takePart yX5_takePart ∈ tkTb := tk_tb (List.mem_append_right _ (List.mem_of_getElem? (i := 420) (by decide +kernel))) rfl
theorem wY_X6_init : tkY yX6_init cX6_init 1 none 0 := ⟨tk_tb (List.mem_append_right _ (List.mem_of_getElem? (i := 220) (by decide +kernel))) rfl, tk_tb (List.mem_append_right _ (List.mem_of_getElem? (i := 10) (by decide +kernel))) rfl, by decide +kernel, by decide +kernel, by decide +kernel⟩
theorem wI_X6_init : Cond.instanceMethod yX6_init ∈ tkTb := tk_tb (List.mem_append_right _ (List.mem_of_getElem? (i := 219) (by decide +kernel))) rfl
theorem wY_X6_makeAnew : tkY yX6_makeAnew cX6_makeAnew 3 none 2 := ⟨tk_tb (List.mem_append_right _ (List.mem_of_getElem? (i := 638) (by decide +kernel))) rfl, tk_tb (List.mem_append_right _ (List.mem_of_getElem? (i := 10) (by decide +kernel))) rfl, by decide +kernel, by decide +kernel, by decide +kernel⟩
theorem wI_X6_makeAnew : Cond.instanceMethod yX6_makeAnew ∈ tkTb := tk_tb (List.mem_append_right _ (List.mem_of_getElem? (i := 636) (by decide +kernel))) rfl
theorem wS_X6_makeAnew : Cond.selects RX6 yX6_makeAnew yX6_makeAnew ∈ tkTb := tk_tb (List.mem_append_right _ (List.mem_of_getElem? (i := 637) (by decide +kernel))) rfl
theorem wY_X6_isMissing : tkY yX6_isMissing cX6_isMissing 1 (some .boolean) 0 := ⟨tk_tb (List.mem_append_right _ (List.mem_of_getElem? (i := 647) (by decide +kernel))) rfl, tk_tb (List.mem_append_right _ (List.mem_of_getElem? (i := 10) (by decide +kernel))) rfl, by decide +kernel, by decide +kernel, by decide +kernel⟩
theorem wI_X6_isMissing : Cond.instanceMethod yX6_isMissing ∈ tkTb := tk_tb (List.mem_append_right _ (List.mem_of_getElem? (i := 645) (by decide +kernel))) rfl
theorem wS_X6_isMissing : Cond.selects RX6 yX6_isMissing yX6_isMissing ∈ tkTb := tk_tb (List.mem_append_right _ (List.mem_of_getElem? (i := 646) (by decide +kernel))) rfl
theorem wY_X6_write : tkY yX6_write cX6_write 3 none 2 := ⟨tk_tb (List.mem_append_right _ (List.mem_of_getElem? (i := 652) (by decide +kernel))) rfl, tk_tb (List.mem_append_right _ (List.mem_of_getElem? (i := 10) (by decide +kernel))) rfl, by decide +kernel, by decide +kernel, by decide +kernel⟩
theorem wI_X6_write : Cond.instanceMethod yX6_write ∈ tkTb := tk_tb (List.mem_append_right _ (List.mem_of_getElem? (i := 650) (by decide +kernel))) rfl
theorem wS_X6_write : Cond.selects RX6 yX6_write yX6_write ∈ tkTb := tk_tb (List.mem_append_right _ (List.mem_of_getElem? (i := 651) (by decide +kernel))) rfl
theorem wY_X6_holds : tkY yX6_holds cX6_holds 3 (some .boolean) 2 := ⟨tk_tb (List.mem_append_right _ (List.mem_of_getElem? (i := 661) (by decide +kernel))) rfl, tk_tb (List.mem_append_right _ (List.mem_of_getElem? (i := 10) (by decide +kernel))) rfl, by decide +kernel, by decide +kernel, by decide +kernel⟩
theorem wI_X6_holds : Cond.instanceMethod yX6_holds ∈ tkTb := tk_tb (List.mem_append_right _ (List.mem_of_getElem? (i := 659) (by decide +kernel))) rfl
theorem wS_X6_holds : Cond.selects RX6 yX6_holds yX6_holds ∈ tkTb := tk_tb (List.mem_append_right _ (List.mem_of_getElem? (i := 660) (by decide +kernel))) rfl
theorem wY_X6_howManySteps : tkY yX6_howManySteps cX6_howManySteps 1 (some .int) 0 := ⟨tk_tb (List.mem_append_right _ (List.mem_of_getElem? (i := 674) (by decide +kernel))) rfl, tk_tb (List.mem_append_right _ (List.mem_of_getElem? (i := 10) (by decide +kernel))) rfl, by decide +kernel, by decide +kernel, by decide +kernel⟩
theorem wI_X6_howManySteps : Cond.instanceMethod yX6_howManySteps ∈ tkTb := tk_tb (List.mem_append_right _ (List.mem_of_getElem? (i := 672) (by decide +kernel))) rfl
theorem wS_X6_howManySteps : Cond.selects RX6 yX6_howManySteps yX6_howManySteps ∈ tkTb := tk_tb (List.mem_append_right _ (List.mem_of_getElem? (i := 673) (by decide +kernel))) rfl
theorem wY_X6_tellsSteps : tkY yX6_tellsSteps cX6_tellsSteps 2 (some .boolean) 0 := ⟨tk_tb (List.mem_append_right _ (List.mem_of_getElem? (i := 670) (by decide +kernel))) rfl, tk_tb (List.mem_append_right _ (List.mem_of_getElem? (i := 10) (by decide +kernel))) rfl, by decide +kernel, by decide +kernel, by decide +kernel⟩
theorem wI_X6_tellsSteps : Cond.instanceMethod yX6_tellsSteps ∈ tkTb := tk_tb (List.mem_append_right _ (List.mem_of_getElem? (i := 668) (by decide +kernel))) rfl
theorem wS_X6_tellsSteps : Cond.selects RX6 yX6_tellsSteps yX6_tellsSteps ∈ tkTb := tk_tb (List.mem_append_right _ (List.mem_of_getElem? (i := 669) (by decide +kernel))) rfl
theorem wY_X6_stepAt : tkY yX6_stepAt cX6_stepAt 2 (some .int) 1 := ⟨tk_tb (List.mem_append_right _ (List.mem_of_getElem? (i := 680) (by decide +kernel))) rfl, tk_tb (List.mem_append_right _ (List.mem_of_getElem? (i := 10) (by decide +kernel))) rfl, by decide +kernel, by decide +kernel, by decide +kernel⟩
theorem wI_X6_stepAt : Cond.instanceMethod yX6_stepAt ∈ tkTb := tk_tb (List.mem_append_right _ (List.mem_of_getElem? (i := 678) (by decide +kernel))) rfl
theorem wS_X6_stepAt : Cond.selects RX6 yX6_stepAt yX6_stepAt ∈ tkTb := tk_tb (List.mem_append_right _ (List.mem_of_getElem? (i := 679) (by decide +kernel))) rfl
theorem wY_X7_init : tkY yX7_init cX7_init 1 none 0 := ⟨tk_tb (List.mem_append_right _ (List.mem_of_getElem? (i := 172) (by decide +kernel))) rfl, tk_tb (List.mem_append_right _ (List.mem_of_getElem? (i := 8) (by decide +kernel))) rfl, by decide +kernel, by decide +kernel, by decide +kernel⟩
theorem wI_X7_init : Cond.instanceMethod yX7_init ∈ tkTb := tk_tb (List.mem_append_right _ (List.mem_of_getElem? (i := 171) (by decide +kernel))) rfl
theorem wY_X7_grow : tkY yX7_grow cX7_grow 5 none 2 := ⟨tk_tb (List.mem_append_right _ (List.mem_of_getElem? (i := 527) (by decide +kernel))) rfl, tk_tb (List.mem_append_right _ (List.mem_of_getElem? (i := 8) (by decide +kernel))) rfl, by decide +kernel, by decide +kernel, by decide +kernel⟩
theorem wI_X7_grow : Cond.instanceMethod yX7_grow ∈ tkTb := tk_tb (List.mem_append_right _ (List.mem_of_getElem? (i := 525) (by decide +kernel))) rfl
theorem wS_X7_grow : Cond.selects RX7 yX7_grow yX7_grow ∈ tkTb := tk_tb (List.mem_append_right _ (List.mem_of_getElem? (i := 526) (by decide +kernel))) rfl
theorem wY_X7_addBranch : tkY yX7_addBranch cX7_addBranch 8 none 2 := ⟨tk_tb (List.mem_append_right _ (List.mem_of_getElem? (i := 537) (by decide +kernel))) rfl, tk_tb (List.mem_append_right _ (List.mem_of_getElem? (i := 8) (by decide +kernel))) rfl, by decide +kernel, by decide +kernel, by decide +kernel⟩
theorem wI_X7_addBranch : Cond.instanceMethod yX7_addBranch ∈ tkTb := tk_tb (List.mem_append_right _ (List.mem_of_getElem? (i := 535) (by decide +kernel))) rfl
theorem wS_X7_addBranch : Cond.selects RX7 yX7_addBranch yX7_addBranch ∈ tkTb := tk_tb (List.mem_append_right _ (List.mem_of_getElem? (i := 536) (by decide +kernel))) rfl
theorem wY_X7_joinParts : tkY yX7_joinParts cX7_joinParts 4 none 2 := ⟨tk_tb (List.mem_append_right _ (List.mem_of_getElem? (i := 542) (by decide +kernel))) rfl, tk_tb (List.mem_append_right _ (List.mem_of_getElem? (i := 8) (by decide +kernel))) rfl, by decide +kernel, by decide +kernel, by decide +kernel⟩
theorem wI_X7_joinParts : Cond.instanceMethod yX7_joinParts ∈ tkTb := tk_tb (List.mem_append_right _ (List.mem_of_getElem? (i := 540) (by decide +kernel))) rfl
theorem wS_X7_joinParts : Cond.selects RX7 yX7_joinParts yX7_joinParts ∈ tkTb := tk_tb (List.mem_append_right _ (List.mem_of_getElem? (i := 541) (by decide +kernel))) rfl
theorem wY_X8_init : tkY yX8_init cX8_init 2 none 0 := ⟨tk_tb (List.mem_append_right _ (List.mem_of_getElem? (i := 19) (by decide +kernel))) rfl, tk_tb (List.mem_append_right _ (List.mem_of_getElem? (i := 1) (by decide +kernel))) rfl, by decide +kernel, by decide +kernel, by decide +kernel⟩
theorem wI_X8_init : Cond.instanceMethod yX8_init ∈ tkTb := tk_tb (List.mem_append_right _ (List.mem_of_getElem? (i := 18) (by decide +kernel))) rfl
theorem wY_X8_tale : tkY yX8_tale cX8_tale 4 (some .int) 3 := ⟨tk_tb (List.mem_append_right _ (List.mem_of_getElem? (i := 260) (by decide +kernel))) rfl, tk_tb (List.mem_append_right _ (List.mem_of_getElem? (i := 1) (by decide +kernel))) rfl, by decide +kernel, by decide +kernel, by decide +kernel⟩
theorem wI_X8_tale : Cond.instanceMethod yX8_tale ∈ tkTb := tk_tb (List.mem_append_right _ (List.mem_of_getElem? (i := 258) (by decide +kernel))) rfl
theorem wS_X8_tale : Cond.selects RX8 yX8_tale yX8_tale ∈ tkTb := tk_tb (List.mem_append_right _ (List.mem_of_getElem? (i := 259) (by decide +kernel))) rfl
theorem wY_X8_as : tkY yX8_as cX8_as 3 (some .int) 2 := ⟨tk_tb (List.mem_append_right _ (List.mem_of_getElem? (i := 291) (by decide +kernel))) rfl, tk_tb (List.mem_append_right _ (List.mem_of_getElem? (i := 1) (by decide +kernel))) rfl, by decide +kernel, by decide +kernel, by decide +kernel⟩
theorem wI_X8_as : Cond.instanceMethod yX8_as ∈ tkTb := tk_tb (List.mem_append_right _ (List.mem_of_getElem? (i := 289) (by decide +kernel))) rfl
theorem wS_X8_as : Cond.selects RX8 yX8_as yX8_as ∈ tkTb := tk_tb (List.mem_append_right _ (List.mem_of_getElem? (i := 290) (by decide +kernel))) rfl
theorem wY_X8_step : tkY yX8_step cX8_step 5 (some .int) 4 := ⟨tk_tb (List.mem_append_right _ (List.mem_of_getElem? (i := 304) (by decide +kernel))) rfl, tk_tb (List.mem_append_right _ (List.mem_of_getElem? (i := 1) (by decide +kernel))) rfl, by decide +kernel, by decide +kernel, by decide +kernel⟩
theorem wI_X8_step : Cond.instanceMethod yX8_step ∈ tkTb := tk_tb (List.mem_append_right _ (List.mem_of_getElem? (i := 302) (by decide +kernel))) rfl
theorem wS_X8_step : Cond.selects RX8 yX8_step yX8_step ∈ tkTb := tk_tb (List.mem_append_right _ (List.mem_of_getElem? (i := 303) (by decide +kernel))) rfl
theorem wY_X8_unstep : tkY yX8_unstep cX8_unstep 2 (some .int) 1 := ⟨tk_tb (List.mem_append_right _ (List.mem_of_getElem? (i := 322) (by decide +kernel))) rfl, tk_tb (List.mem_append_right _ (List.mem_of_getElem? (i := 1) (by decide +kernel))) rfl, by decide +kernel, by decide +kernel, by decide +kernel⟩
theorem wI_X8_unstep : Cond.instanceMethod yX8_unstep ∈ tkTb := tk_tb (List.mem_append_right _ (List.mem_of_getElem? (i := 320) (by decide +kernel))) rfl
theorem wS_X8_unstep : Cond.selects RX8 yX8_unstep yX8_unstep ∈ tkTb := tk_tb (List.mem_append_right _ (List.mem_of_getElem? (i := 321) (by decide +kernel))) rfl
theorem wY_X8_of : tkY yX8_of cX8_of 5 (some .int) 3 := ⟨tk_tb (List.mem_append_right _ (List.mem_of_getElem? (i := 327) (by decide +kernel))) rfl, tk_tb (List.mem_append_right _ (List.mem_of_getElem? (i := 1) (by decide +kernel))) rfl, by decide +kernel, by decide +kernel, by decide +kernel⟩
theorem wI_X8_of : Cond.instanceMethod yX8_of ∈ tkTb := tk_tb (List.mem_append_right _ (List.mem_of_getElem? (i := 325) (by decide +kernel))) rfl
theorem wS_X8_of : Cond.selects RX8 yX8_of yX8_of ∈ tkTb := tk_tb (List.mem_append_right _ (List.mem_of_getElem? (i := 326) (by decide +kernel))) rfl
theorem wY_X8_told : tkY yX8_told cX8_told 3 (some .int) 2 := ⟨tk_tb (List.mem_append_right _ (List.mem_of_getElem? (i := 349) (by decide +kernel))) rfl, tk_tb (List.mem_append_right _ (List.mem_of_getElem? (i := 1) (by decide +kernel))) rfl, by decide +kernel, by decide +kernel, by decide +kernel⟩
theorem wI_X8_told : Cond.instanceMethod yX8_told ∈ tkTb := tk_tb (List.mem_append_right _ (List.mem_of_getElem? (i := 347) (by decide +kernel))) rfl
theorem wS_X8_told : Cond.selects RX8 yX8_told yX8_told ∈ tkTb := tk_tb (List.mem_append_right _ (List.mem_of_getElem? (i := 348) (by decide +kernel))) rfl
theorem wY_X8_print : tkY yX8_print cX8_print 4 (some .int) 2 := ⟨tk_tb (List.mem_append_right _ (List.mem_of_getElem? (i := 361) (by decide +kernel))) rfl, tk_tb (List.mem_append_right _ (List.mem_of_getElem? (i := 1) (by decide +kernel))) rfl, by decide +kernel, by decide +kernel, by decide +kernel⟩
theorem wI_X8_print : Cond.instanceMethod yX8_print ∈ tkTb := tk_tb (List.mem_append_right _ (List.mem_of_getElem? (i := 359) (by decide +kernel))) rfl
theorem wS_X8_print : Cond.selects RX8 yX8_print yX8_print ∈ tkTb := tk_tb (List.mem_append_right _ (List.mem_of_getElem? (i := 360) (by decide +kernel))) rfl
theorem wY_X8_recode : tkY yX8_recode cX8_recode 3 (some .int) 2 := ⟨tk_tb (List.mem_append_right _ (List.mem_of_getElem? (i := 370) (by decide +kernel))) rfl, tk_tb (List.mem_append_right _ (List.mem_of_getElem? (i := 1) (by decide +kernel))) rfl, by decide +kernel, by decide +kernel, by decide +kernel⟩
theorem wI_X8_recode : Cond.instanceMethod yX8_recode ∈ tkTb := tk_tb (List.mem_append_right _ (List.mem_of_getElem? (i := 368) (by decide +kernel))) rfl
theorem wS_X8_recode : Cond.selects RX8 yX8_recode yX8_recode ∈ tkTb := tk_tb (List.mem_append_right _ (List.mem_of_getElem? (i := 369) (by decide +kernel))) rfl
theorem wY_X8_price : tkY yX8_price cX8_price 4 (some .int) 2 := ⟨tk_tb (List.mem_append_right _ (List.mem_of_getElem? (i := 387) (by decide +kernel))) rfl, tk_tb (List.mem_append_right _ (List.mem_of_getElem? (i := 1) (by decide +kernel))) rfl, by decide +kernel, by decide +kernel, by decide +kernel⟩
theorem wI_X8_price : Cond.instanceMethod yX8_price ∈ tkTb := tk_tb (List.mem_append_right _ (List.mem_of_getElem? (i := 385) (by decide +kernel))) rfl
theorem wS_X8_price : Cond.selects RX8 yX8_price yX8_price ∈ tkTb := tk_tb (List.mem_append_right _ (List.mem_of_getElem? (i := 386) (by decide +kernel))) rfl
theorem wY_X8_way : tkY yX8_way cX8_way 5 (some .int) 3 := ⟨tk_tb (List.mem_append_right _ (List.mem_of_getElem? (i := 391) (by decide +kernel))) rfl, tk_tb (List.mem_append_right _ (List.mem_of_getElem? (i := 1) (by decide +kernel))) rfl, by decide +kernel, by decide +kernel, by decide +kernel⟩
theorem wI_X8_way : Cond.instanceMethod yX8_way ∈ tkTb := tk_tb (List.mem_append_right _ (List.mem_of_getElem? (i := 389) (by decide +kernel))) rfl
theorem wS_X8_way : Cond.selects RX8 yX8_way yX8_way ∈ tkTb := tk_tb (List.mem_append_right _ (List.mem_of_getElem? (i := 390) (by decide +kernel))) rfl
theorem wY_X8_cost : tkY yX8_cost cX8_cost 3 (some .int) 2 := ⟨tk_tb (List.mem_append_right _ (List.mem_of_getElem? (i := 404) (by decide +kernel))) rfl, tk_tb (List.mem_append_right _ (List.mem_of_getElem? (i := 1) (by decide +kernel))) rfl, by decide +kernel, by decide +kernel, by decide +kernel⟩
theorem wI_X8_cost : Cond.instanceMethod yX8_cost ∈ tkTb := tk_tb (List.mem_append_right _ (List.mem_of_getElem? (i := 402) (by decide +kernel))) rfl
theorem wS_X8_cost : Cond.selects RX8 yX8_cost yX8_cost ∈ tkTb := tk_tb (List.mem_append_right _ (List.mem_of_getElem? (i := 403) (by decide +kernel))) rfl
theorem wY_X8_carried : tkY yX8_carried cX8_carried 4 (some .int) 3 := ⟨tk_tb (List.mem_append_right _ (List.mem_of_getElem? (i := 462) (by decide +kernel))) rfl, tk_tb (List.mem_append_right _ (List.mem_of_getElem? (i := 1) (by decide +kernel))) rfl, by decide +kernel, by decide +kernel, by decide +kernel⟩
theorem wI_X8_carried : Cond.instanceMethod yX8_carried ∈ tkTb := tk_tb (List.mem_append_right _ (List.mem_of_getElem? (i := 460) (by decide +kernel))) rfl
theorem wS_X8_carried : Cond.selects RX8 yX8_carried yX8_carried ∈ tkTb := tk_tb (List.mem_append_right _ (List.mem_of_getElem? (i := 461) (by decide +kernel))) rfl
theorem wY_X8_pair : tkY yX8_pair cX8_pair 6 (some .int) 3 := ⟨tk_tb (List.mem_append_right _ (List.mem_of_getElem? (i := 471) (by decide +kernel))) rfl, tk_tb (List.mem_append_right _ (List.mem_of_getElem? (i := 1) (by decide +kernel))) rfl, by decide +kernel, by decide +kernel, by decide +kernel⟩
theorem wI_X8_pair : Cond.instanceMethod yX8_pair ∈ tkTb := tk_tb (List.mem_append_right _ (List.mem_of_getElem? (i := 469) (by decide +kernel))) rfl
theorem wS_X8_pair : Cond.selects RX8 yX8_pair yX8_pair ∈ tkTb := tk_tb (List.mem_append_right _ (List.mem_of_getElem? (i := 470) (by decide +kernel))) rfl
theorem wY_X8_pairs : tkY yX8_pairs cX8_pairs 4 (some .int) 3 := ⟨tk_tb (List.mem_append_right _ (List.mem_of_getElem? (i := 486) (by decide +kernel))) rfl, tk_tb (List.mem_append_right _ (List.mem_of_getElem? (i := 1) (by decide +kernel))) rfl, by decide +kernel, by decide +kernel, by decide +kernel⟩
theorem wI_X8_pairs : Cond.instanceMethod yX8_pairs ∈ tkTb := tk_tb (List.mem_append_right _ (List.mem_of_getElem? (i := 484) (by decide +kernel))) rfl
theorem wS_X8_pairs : Cond.selects RX8 yX8_pairs yX8_pairs ∈ tkTb := tk_tb (List.mem_append_right _ (List.mem_of_getElem? (i := 485) (by decide +kernel))) rfl
theorem wY_X8_mould : tkY yX8_mould cX8_mould 3 (some .int) 1 := ⟨tk_tb (List.mem_append_right _ (List.mem_of_getElem? (i := 494) (by decide +kernel))) rfl, tk_tb (List.mem_append_right _ (List.mem_of_getElem? (i := 1) (by decide +kernel))) rfl, by decide +kernel, by decide +kernel, by decide +kernel⟩
theorem wI_X8_mould : Cond.instanceMethod yX8_mould ∈ tkTb := tk_tb (List.mem_append_right _ (List.mem_of_getElem? (i := 492) (by decide +kernel))) rfl
theorem wS_X8_mould : Cond.selects RX8 yX8_mould yX8_mould ∈ tkTb := tk_tb (List.mem_append_right _ (List.mem_of_getElem? (i := 493) (by decide +kernel))) rfl
theorem wY_X8_spread : tkY yX8_spread cX8_spread 3 (some .int) 1 := ⟨tk_tb (List.mem_append_right _ (List.mem_of_getElem? (i := 519) (by decide +kernel))) rfl, tk_tb (List.mem_append_right _ (List.mem_of_getElem? (i := 1) (by decide +kernel))) rfl, by decide +kernel, by decide +kernel, by decide +kernel⟩
theorem wI_X8_spread : Cond.instanceMethod yX8_spread ∈ tkTb := tk_tb (List.mem_append_right _ (List.mem_of_getElem? (i := 517) (by decide +kernel))) rfl
theorem wS_X8_spread : Cond.selects RX8 yX8_spread yX8_spread ∈ tkTb := tk_tb (List.mem_append_right _ (List.mem_of_getElem? (i := 518) (by decide +kernel))) rfl
theorem wY_X8_tree : tkY yX8_tree cX8_tree 3 (some .int) 1 := ⟨tk_tb (List.mem_append_right _ (List.mem_of_getElem? (i := 523) (by decide +kernel))) rfl, tk_tb (List.mem_append_right _ (List.mem_of_getElem? (i := 1) (by decide +kernel))) rfl, by decide +kernel, by decide +kernel, by decide +kernel⟩
theorem wI_X8_tree : Cond.instanceMethod yX8_tree ∈ tkTb := tk_tb (List.mem_append_right _ (List.mem_of_getElem? (i := 521) (by decide +kernel))) rfl
theorem wS_X8_tree : Cond.selects RX8 yX8_tree yX8_tree ∈ tkTb := tk_tb (List.mem_append_right _ (List.mem_of_getElem? (i := 522) (by decide +kernel))) rfl
theorem wY_X8_branch : tkY yX8_branch cX8_branch 4 (some .int) 2 := ⟨tk_tb (List.mem_append_right _ (List.mem_of_getElem? (i := 546) (by decide +kernel))) rfl, tk_tb (List.mem_append_right _ (List.mem_of_getElem? (i := 1) (by decide +kernel))) rfl, by decide +kernel, by decide +kernel, by decide +kernel⟩
theorem wI_X8_branch : Cond.instanceMethod yX8_branch ∈ tkTb := tk_tb (List.mem_append_right _ (List.mem_of_getElem? (i := 544) (by decide +kernel))) rfl
theorem wS_X8_branch : Cond.selects RX8 yX8_branch yX8_branch ∈ tkTb := tk_tb (List.mem_append_right _ (List.mem_of_getElem? (i := 545) (by decide +kernel))) rfl
theorem wY_X8_nearest : tkY yX8_nearest cX8_nearest 3 (some .int) 1 := ⟨tk_tb (List.mem_append_right _ (List.mem_of_getElem? (i := 550) (by decide +kernel))) rfl, tk_tb (List.mem_append_right _ (List.mem_of_getElem? (i := 1) (by decide +kernel))) rfl, by decide +kernel, by decide +kernel, by decide +kernel⟩
theorem wI_X8_nearest : Cond.instanceMethod yX8_nearest ∈ tkTb := tk_tb (List.mem_append_right _ (List.mem_of_getElem? (i := 548) (by decide +kernel))) rfl
theorem wS_X8_nearest : Cond.selects RX8 yX8_nearest yX8_nearest ∈ tkTb := tk_tb (List.mem_append_right _ (List.mem_of_getElem? (i := 549) (by decide +kernel))) rfl
theorem wY_X8_source : tkY yX8_source cX8_source 3 (some .int) 1 := ⟨tk_tb (List.mem_append_right _ (List.mem_of_getElem? (i := 563) (by decide +kernel))) rfl, tk_tb (List.mem_append_right _ (List.mem_of_getElem? (i := 1) (by decide +kernel))) rfl, by decide +kernel, by decide +kernel, by decide +kernel⟩
theorem wI_X8_source : Cond.instanceMethod yX8_source ∈ tkTb := tk_tb (List.mem_append_right _ (List.mem_of_getElem? (i := 561) (by decide +kernel))) rfl
theorem wS_X8_source : Cond.selects RX8 yX8_source yX8_source ∈ tkTb := tk_tb (List.mem_append_right _ (List.mem_of_getElem? (i := 562) (by decide +kernel))) rfl
theorem wY_X8_first : tkY yX8_first cX8_first 5 (some .int) 1 := ⟨tk_tb (List.mem_append_right _ (List.mem_of_getElem? (i := 571) (by decide +kernel))) rfl, tk_tb (List.mem_append_right _ (List.mem_of_getElem? (i := 1) (by decide +kernel))) rfl, by decide +kernel, by decide +kernel, by decide +kernel⟩
theorem wI_X8_first : Cond.instanceMethod yX8_first ∈ tkTb := tk_tb (List.mem_append_right _ (List.mem_of_getElem? (i := 569) (by decide +kernel))) rfl
theorem wS_X8_first : Cond.selects RX8 yX8_first yX8_first ∈ tkTb := tk_tb (List.mem_append_right _ (List.mem_of_getElem? (i := 570) (by decide +kernel))) rfl
theorem wY_X8_borrowed : tkY yX8_borrowed cX8_borrowed 4 (some .int) 3 := ⟨tk_tb (List.mem_append_right _ (List.mem_of_getElem? (i := 575) (by decide +kernel))) rfl, tk_tb (List.mem_append_right _ (List.mem_of_getElem? (i := 1) (by decide +kernel))) rfl, by decide +kernel, by decide +kernel, by decide +kernel⟩
theorem wI_X8_borrowed : Cond.instanceMethod yX8_borrowed ∈ tkTb := tk_tb (List.mem_append_right _ (List.mem_of_getElem? (i := 573) (by decide +kernel))) rfl
theorem wS_X8_borrowed : Cond.selects RX8 yX8_borrowed yX8_borrowed ∈ tkTb := tk_tb (List.mem_append_right _ (List.mem_of_getElem? (i := 574) (by decide +kernel))) rfl
theorem wY_X8_joined : tkY yX8_joined cX8_joined 10 (some .int) 4 := ⟨tk_tb (List.mem_append_right _ (List.mem_of_getElem? (i := 600) (by decide +kernel))) rfl, tk_tb (List.mem_append_right _ (List.mem_of_getElem? (i := 1) (by decide +kernel))) rfl, by decide +kernel, by decide +kernel, by decide +kernel⟩
theorem wI_X8_joined : Cond.instanceMethod yX8_joined ∈ tkTb := tk_tb (List.mem_append_right _ (List.mem_of_getElem? (i := 598) (by decide +kernel))) rfl
theorem wS_X8_joined : Cond.selects RX8 yX8_joined yX8_joined ∈ tkTb := tk_tb (List.mem_append_right _ (List.mem_of_getElem? (i := 599) (by decide +kernel))) rfl
theorem wY_X8_count : tkY yX8_count cX8_count 5 (some .int) 3 := ⟨tk_tb (List.mem_append_right _ (List.mem_of_getElem? (i := 609) (by decide +kernel))) rfl, tk_tb (List.mem_append_right _ (List.mem_of_getElem? (i := 1) (by decide +kernel))) rfl, by decide +kernel, by decide +kernel, by decide +kernel⟩
theorem wI_X8_count : Cond.instanceMethod yX8_count ∈ tkTb := tk_tb (List.mem_append_right _ (List.mem_of_getElem? (i := 607) (by decide +kernel))) rfl
theorem wS_X8_count : Cond.selects RX8 yX8_count yX8_count ∈ tkTb := tk_tb (List.mem_append_right _ (List.mem_of_getElem? (i := 608) (by decide +kernel))) rfl
theorem wY_X8_home : tkY yX8_home cX8_home 6 (some .int) 1 := ⟨tk_tb (List.mem_append_right _ (List.mem_of_getElem? (i := 630) (by decide +kernel))) rfl, tk_tb (List.mem_append_right _ (List.mem_of_getElem? (i := 1) (by decide +kernel))) rfl, by decide +kernel, by decide +kernel, by decide +kernel⟩
theorem wI_X8_home : Cond.instanceMethod yX8_home ∈ tkTb := tk_tb (List.mem_append_right _ (List.mem_of_getElem? (i := 628) (by decide +kernel))) rfl
theorem wS_X8_home : Cond.selects RX8 yX8_home yX8_home ∈ tkTb := tk_tb (List.mem_append_right _ (List.mem_of_getElem? (i := 629) (by decide +kernel))) rfl
theorem wY_X8_sheet : tkY yX8_sheet cX8_sheet 4 (some .int) 3 := ⟨tk_tb (List.mem_append_right _ (List.mem_of_getElem? (i := 634) (by decide +kernel))) rfl, tk_tb (List.mem_append_right _ (List.mem_of_getElem? (i := 1) (by decide +kernel))) rfl, by decide +kernel, by decide +kernel, by decide +kernel⟩
theorem wI_X8_sheet : Cond.instanceMethod yX8_sheet ∈ tkTb := tk_tb (List.mem_append_right _ (List.mem_of_getElem? (i := 632) (by decide +kernel))) rfl
theorem wS_X8_sheet : Cond.selects RX8 yX8_sheet yX8_sheet ∈ tkTb := tk_tb (List.mem_append_right _ (List.mem_of_getElem? (i := 633) (by decide +kernel))) rfl
theorem wY_X8_put : tkY yX8_put cX8_put 4 (some .int) 3 := ⟨tk_tb (List.mem_append_right _ (List.mem_of_getElem? (i := 643) (by decide +kernel))) rfl, tk_tb (List.mem_append_right _ (List.mem_of_getElem? (i := 1) (by decide +kernel))) rfl, by decide +kernel, by decide +kernel, by decide +kernel⟩
theorem wI_X8_put : Cond.instanceMethod yX8_put ∈ tkTb := tk_tb (List.mem_append_right _ (List.mem_of_getElem? (i := 641) (by decide +kernel))) rfl
theorem wS_X8_put : Cond.selects RX8 yX8_put yX8_put ∈ tkTb := tk_tb (List.mem_append_right _ (List.mem_of_getElem? (i := 642) (by decide +kernel))) rfl
theorem wY_X8_copy : tkY yX8_copy cX8_copy 6 (some .int) 5 := ⟨tk_tb (List.mem_append_right _ (List.mem_of_getElem? (i := 657) (by decide +kernel))) rfl, tk_tb (List.mem_append_right _ (List.mem_of_getElem? (i := 1) (by decide +kernel))) rfl, by decide +kernel, by decide +kernel, by decide +kernel⟩
theorem wI_X8_copy : Cond.instanceMethod yX8_copy ∈ tkTb := tk_tb (List.mem_append_right _ (List.mem_of_getElem? (i := 655) (by decide +kernel))) rfl
theorem wS_X8_copy : Cond.selects RX8 yX8_copy yX8_copy ∈ tkTb := tk_tb (List.mem_append_right _ (List.mem_of_getElem? (i := 656) (by decide +kernel))) rfl
theorem wY_X8_lay : tkY yX8_lay cX8_lay 4 (some .int) 2 := ⟨tk_tb (List.mem_append_right _ (List.mem_of_getElem? (i := 666) (by decide +kernel))) rfl, tk_tb (List.mem_append_right _ (List.mem_of_getElem? (i := 1) (by decide +kernel))) rfl, by decide +kernel, by decide +kernel, by decide +kernel⟩
theorem wI_X8_lay : Cond.instanceMethod yX8_lay ∈ tkTb := tk_tb (List.mem_append_right _ (List.mem_of_getElem? (i := 664) (by decide +kernel))) rfl
theorem wS_X8_lay : Cond.selects RX8 yX8_lay yX8_lay ∈ tkTb := tk_tb (List.mem_append_right _ (List.mem_of_getElem? (i := 665) (by decide +kernel))) rfl
theorem wY_X8_undo : tkY yX8_undo cX8_undo 1 (some .int) 0 := ⟨tk_tb (List.mem_append_right _ (List.mem_of_getElem? (i := 685) (by decide +kernel))) rfl, tk_tb (List.mem_append_right _ (List.mem_of_getElem? (i := 1) (by decide +kernel))) rfl, by decide +kernel, by decide +kernel, by decide +kernel⟩
theorem wI_X8_undo : Cond.instanceMethod yX8_undo ∈ tkTb := tk_tb (List.mem_append_right _ (List.mem_of_getElem? (i := 683) (by decide +kernel))) rfl
theorem wS_X8_undo : Cond.selects RX8 yX8_undo yX8_undo ∈ tkTb := tk_tb (List.mem_append_right _ (List.mem_of_getElem? (i := 684) (by decide +kernel))) rfl
theorem wY_X8_all : tkY yX8_all cX8_all 2 (some .int) 1 := ⟨tk_tb (List.mem_append_right _ (List.mem_of_getElem? (i := 693) (by decide +kernel))) rfl, tk_tb (List.mem_append_right _ (List.mem_of_getElem? (i := 1) (by decide +kernel))) rfl, by decide +kernel, by decide +kernel, by decide +kernel⟩
theorem wI_X8_all : Cond.instanceMethod yX8_all ∈ tkTb := tk_tb (List.mem_append_right _ (List.mem_of_getElem? (i := 691) (by decide +kernel))) rfl
theorem wS_X8_all : Cond.selects RX8 yX8_all yX8_all ∈ tkTb := tk_tb (List.mem_append_right _ (List.mem_of_getElem? (i := 692) (by decide +kernel))) rfl
theorem wY_X8_finding : tkY yX8_finding cX8_finding 2 (some .int) 1 := ⟨tk_tb (List.mem_append_right _ (List.mem_of_getElem? (i := 268) (by decide +kernel))) rfl, tk_tb (List.mem_append_right _ (List.mem_of_getElem? (i := 1) (by decide +kernel))) rfl, by decide +kernel, by decide +kernel, by decide +kernel⟩
theorem wI_X8_finding : Cond.instanceMethod yX8_finding ∈ tkTb := tk_tb (List.mem_append_right _ (List.mem_of_getElem? (i := 267) (by decide +kernel))) rfl
theorem wS_X8_finding : Cond.selects RX8 yX8_finding yX8_finding ∈ tkTb := tk_tb (List.mem_append_left _ (List.mem_of_getElem? (i := 0) (by decide +kernel))) rfl
theorem wY_X8_heapRefusal : tkY yX8_heapRefusal cX8_heapRefusal 2 (some .int) 1 := ⟨tk_tb (List.mem_append_right _ (List.mem_of_getElem? (i := 498) (by decide +kernel))) rfl, tk_tb (List.mem_append_right _ (List.mem_of_getElem? (i := 1) (by decide +kernel))) rfl, by decide +kernel, by decide +kernel, by decide +kernel⟩
theorem wI_X8_heapRefusal : Cond.instanceMethod yX8_heapRefusal ∈ tkTb := tk_tb (List.mem_append_right _ (List.mem_of_getElem? (i := 497) (by decide +kernel))) rfl
theorem wS_X8_heapRefusal : Cond.selects RX8 yX8_heapRefusal yX8_heapRefusal ∈ tkTb := tk_tb (List.mem_append_left _ (List.mem_of_getElem? (i := 1) (by decide +kernel))) rfl
theorem wY_X8_mouldOf : tkY yX8_mouldOf cX8_mouldOf 6 (some .int) 1 := ⟨tk_tb (List.mem_append_right _ (List.mem_of_getElem? (i := 510) (by decide +kernel))) rfl, tk_tb (List.mem_append_right _ (List.mem_of_getElem? (i := 1) (by decide +kernel))) rfl, by decide +kernel, by decide +kernel, by decide +kernel⟩
theorem wI_X8_mouldOf : Cond.instanceMethod yX8_mouldOf ∈ tkTb := tk_tb (List.mem_append_right _ (List.mem_of_getElem? (i := 509) (by decide +kernel))) rfl
theorem wS_X8_mouldOf : Cond.selects RX8 yX8_mouldOf yX8_mouldOf ∈ tkTb := tk_tb (List.mem_append_left _ (List.mem_of_getElem? (i := 2) (by decide +kernel))) rfl
theorem wY_X8_sumOfCosts : tkY yX8_sumOfCosts cX8_sumOfCosts 5 (some .int) 2 := ⟨tk_tb (List.mem_append_right _ (List.mem_of_getElem? (i := 515) (by decide +kernel))) rfl, tk_tb (List.mem_append_right _ (List.mem_of_getElem? (i := 1) (by decide +kernel))) rfl, by decide +kernel, by decide +kernel, by decide +kernel⟩
theorem wI_X8_sumOfCosts : Cond.instanceMethod yX8_sumOfCosts ∈ tkTb := tk_tb (List.mem_append_right _ (List.mem_of_getElem? (i := 514) (by decide +kernel))) rfl
theorem wS_X8_sumOfCosts : Cond.selects RX8 yX8_sumOfCosts yX8_sumOfCosts ∈ tkTb := tk_tb (List.mem_append_left _ (List.mem_of_getElem? (i := 3) (by decide +kernel))) rfl
theorem wY_X8_sourceOf : tkY yX8_sourceOf cX8_sourceOf 2 (some .int) 1 := ⟨tk_tb (List.mem_append_right _ (List.mem_of_getElem? (i := 567) (by decide +kernel))) rfl, tk_tb (List.mem_append_right _ (List.mem_of_getElem? (i := 1) (by decide +kernel))) rfl, by decide +kernel, by decide +kernel, by decide +kernel⟩
theorem wI_X8_sourceOf : Cond.instanceMethod yX8_sourceOf ∈ tkTb := tk_tb (List.mem_append_right _ (List.mem_of_getElem? (i := 566) (by decide +kernel))) rfl
theorem wS_X8_sourceOf : Cond.selects RX8 yX8_sourceOf yX8_sourceOf ∈ tkTb := tk_tb (List.mem_append_left _ (List.mem_of_getElem? (i := 5) (by decide +kernel))) rfl
theorem wY_X8_cheapestBeside : tkY yX8_cheapestBeside cX8_cheapestBeside 7 (some .int) 2 := ⟨tk_tb (List.mem_append_right _ (List.mem_of_getElem? (i := 554) (by decide +kernel))) rfl, tk_tb (List.mem_append_right _ (List.mem_of_getElem? (i := 1) (by decide +kernel))) rfl, by decide +kernel, by decide +kernel, by decide +kernel⟩
theorem wI_X8_cheapestBeside : Cond.instanceMethod yX8_cheapestBeside ∈ tkTb := tk_tb (List.mem_append_right _ (List.mem_of_getElem? (i := 553) (by decide +kernel))) rfl
theorem wS_X8_cheapestBeside : Cond.selects RX8 yX8_cheapestBeside yX8_cheapestBeside ∈ tkTb := tk_tb (List.mem_append_left _ (List.mem_of_getElem? (i := 4) (by decide +kernel))) rfl
theorem wY_X8_isWithin : tkY yX8_isWithin cX8_isWithin 2 (some .boolean) 2 := ⟨tk_tb (List.mem_append_right _ (List.mem_of_getElem? (i := 263) (by decide +kernel))) rfl, tk_tb (List.mem_append_right _ (List.mem_of_getElem? (i := 1) (by decide +kernel))) rfl, by decide +kernel, by decide +kernel, by decide +kernel⟩
theorem wI_X8_isWithin : Cond.static yX8_isWithin ∈ tkTb := tk_tb (List.mem_append_right _ (List.mem_of_getElem? (i := 262) (by decide +kernel))) rfl
theorem wY_X8_isInHeap : tkY yX8_isInHeap cX8_isInHeap 2 (some .boolean) 2 := ⟨tk_tb (List.mem_append_right _ (List.mem_of_getElem? (i := 505) (by decide +kernel))) rfl, tk_tb (List.mem_append_right _ (List.mem_of_getElem? (i := 1) (by decide +kernel))) rfl, by decide +kernel, by decide +kernel, by decide +kernel⟩
theorem wI_X8_isInHeap : Cond.static yX8_isInHeap ∈ tkTb := tk_tb (List.mem_append_right _ (List.mem_of_getElem? (i := 504) (by decide +kernel))) rfl
theorem wY_X8_isUnder : tkY yX8_isUnder cX8_isUnder 2 (some .boolean) 2 := ⟨tk_tb (List.mem_append_right _ (List.mem_of_getElem? (i := 299) (by decide +kernel))) rfl, tk_tb (List.mem_append_right _ (List.mem_of_getElem? (i := 1) (by decide +kernel))) rfl, by decide +kernel, by decide +kernel, by decide +kernel⟩
theorem wI_X8_isUnder : Cond.static yX8_isUnder ∈ tkTb := tk_tb (List.mem_append_right _ (List.mem_of_getElem? (i := 298) (by decide +kernel))) rfl
theorem wY_X8_isStep : tkY yX8_isStep cX8_isStep 3 (some .boolean) 3 := ⟨tk_tb (List.mem_append_right _ (List.mem_of_getElem? (i := 307) (by decide +kernel))) rfl, tk_tb (List.mem_append_right _ (List.mem_of_getElem? (i := 1) (by decide +kernel))) rfl, by decide +kernel, by decide +kernel, by decide +kernel⟩
theorem wI_X8_isStep : Cond.static yX8_isStep ∈ tkTb := tk_tb (List.mem_append_right _ (List.mem_of_getElem? (i := 306) (by decide +kernel))) rfl
theorem wY_X8_packed : tkY yX8_packed cX8_packed 3 (some .int) 3 := ⟨tk_tb (List.mem_append_right _ (List.mem_of_getElem? (i := 310) (by decide +kernel))) rfl, tk_tb (List.mem_append_right _ (List.mem_of_getElem? (i := 1) (by decide +kernel))) rfl, by decide +kernel, by decide +kernel, by decide +kernel⟩
theorem wI_X8_packed : Cond.static yX8_packed ∈ tkTb := tk_tb (List.mem_append_right _ (List.mem_of_getElem? (i := 309) (by decide +kernel))) rfl
theorem wY_X8_motifOf : tkY yX8_motifOf cX8_motifOf 1 (some .int) 1 := ⟨tk_tb (List.mem_append_right _ (List.mem_of_getElem? (i := 339) (by decide +kernel))) rfl, tk_tb (List.mem_append_right _ (List.mem_of_getElem? (i := 1) (by decide +kernel))) rfl, by decide +kernel, by decide +kernel, by decide +kernel⟩
theorem wI_X8_motifOf : Cond.static yX8_motifOf ∈ tkTb := tk_tb (List.mem_append_right _ (List.mem_of_getElem? (i := 338) (by decide +kernel))) rfl
theorem wY_X8_whoOf : tkY yX8_whoOf cX8_whoOf 1 (some .int) 1 := ⟨tk_tb (List.mem_append_right _ (List.mem_of_getElem? (i := 342) (by decide +kernel))) rfl, tk_tb (List.mem_append_right _ (List.mem_of_getElem? (i := 1) (by decide +kernel))) rfl, by decide +kernel, by decide +kernel, by decide +kernel⟩
theorem wI_X8_whoOf : Cond.static yX8_whoOf ∈ tkTb := tk_tb (List.mem_append_right _ (List.mem_of_getElem? (i := 341) (by decide +kernel))) rfl
theorem wY_X8_whomOf : tkY yX8_whomOf cX8_whomOf 1 (some .int) 1 := ⟨tk_tb (List.mem_append_right _ (List.mem_of_getElem? (i := 345) (by decide +kernel))) rfl, tk_tb (List.mem_append_right _ (List.mem_of_getElem? (i := 1) (by decide +kernel))) rfl, by decide +kernel, by decide +kernel, by decide +kernel⟩
theorem wI_X8_whomOf : Cond.static yX8_whomOf ∈ tkTb := tk_tb (List.mem_append_right _ (List.mem_of_getElem? (i := 344) (by decide +kernel))) rfl
theorem wY_X8_goal : tkY yX8_goal cX8_goal 2 (some .int) 2 := ⟨tk_tb (List.mem_append_right _ (List.mem_of_getElem? (i := 443) (by decide +kernel))) rfl, tk_tb (List.mem_append_right _ (List.mem_of_getElem? (i := 1) (by decide +kernel))) rfl, by decide +kernel, by decide +kernel, by decide +kernel⟩
theorem wI_X8_goal : Cond.static yX8_goal ∈ tkTb := tk_tb (List.mem_append_right _ (List.mem_of_getElem? (i := 442) (by decide +kernel))) rfl
theorem wY_X9_init : tkY yX9_init cX9_init 1 none 0 := ⟨tk_tb (List.mem_append_right _ (List.mem_of_getElem? (i := 702) (by decide +kernel))) rfl, tk_tb (List.mem_append_right _ (List.mem_of_getElem? (i := 11) (by decide +kernel))) rfl, by decide +kernel, by decide +kernel, by decide +kernel⟩
theorem wI_X9_init : Cond.instanceMethod yX9_init ∈ tkTb := tk_tb (List.mem_append_right _ (List.mem_of_getElem? (i := 701) (by decide +kernel))) rfl
theorem wY_X9_finding : tkY yX9_finding cX9_finding 2 (some .int) 1 := ⟨tk_tb (List.mem_append_right _ (List.mem_of_getElem? (i := 800) (by decide +kernel))) rfl, tk_tb (List.mem_append_right _ (List.mem_of_getElem? (i := 11) (by decide +kernel))) rfl, by decide +kernel, by decide +kernel, by decide +kernel⟩
theorem wI_X9_finding : Cond.instanceMethod yX9_finding ∈ tkTb := tk_tb (List.mem_append_right _ (List.mem_of_getElem? (i := 799) (by decide +kernel))) rfl
theorem wS_X9_finding : Cond.selects RX9 yX9_finding yX9_finding ∈ tkTb := tk_tb (List.mem_append_left _ (List.mem_of_getElem? (i := 6) (by decide +kernel))) rfl
theorem wY_X9_within : tkY yX9_within cX9_within 3 (some .boolean) 3 := ⟨tk_tb (List.mem_append_right _ (List.mem_of_getElem? (i := 807) (by decide +kernel))) rfl, tk_tb (List.mem_append_right _ (List.mem_of_getElem? (i := 11) (by decide +kernel))) rfl, by decide +kernel, by decide +kernel, by decide +kernel⟩
theorem wI_X9_within : Cond.static yX9_within ∈ tkTb := tk_tb (List.mem_append_right _ (List.mem_of_getElem? (i := 806) (by decide +kernel))) rfl
theorem wY_X9_isTale : tkY yX9_isTale cX9_isTale 2 (some .boolean) 1 := ⟨tk_tb (List.mem_append_right _ (List.mem_of_getElem? (i := 824) (by decide +kernel))) rfl, tk_tb (List.mem_append_right _ (List.mem_of_getElem? (i := 11) (by decide +kernel))) rfl, by decide +kernel, by decide +kernel, by decide +kernel⟩
theorem wI_X9_isTale : Cond.instanceMethod yX9_isTale ∈ tkTb := tk_tb (List.mem_append_right _ (List.mem_of_getElem? (i := 823) (by decide +kernel))) rfl
theorem wS_X9_isTale : Cond.selects RX9 yX9_isTale yX9_isTale ∈ tkTb := tk_tb (List.mem_append_left _ (List.mem_of_getElem? (i := 8) (by decide +kernel))) rfl
theorem wY_X9_isMotif : tkY yX9_isMotif cX9_isMotif 1 (some .boolean) 1 := ⟨tk_tb (List.mem_append_right _ (List.mem_of_getElem? (i := 832) (by decide +kernel))) rfl, tk_tb (List.mem_append_right _ (List.mem_of_getElem? (i := 11) (by decide +kernel))) rfl, by decide +kernel, by decide +kernel, by decide +kernel⟩
theorem wI_X9_isMotif : Cond.static yX9_isMotif ∈ tkTb := tk_tb (List.mem_append_right _ (List.mem_of_getElem? (i := 831) (by decide +kernel))) rfl
theorem wY_X9_isRole : tkY yX9_isRole cX9_isRole 1 (some .boolean) 1 := ⟨tk_tb (List.mem_append_right _ (List.mem_of_getElem? (i := 835) (by decide +kernel))) rfl, tk_tb (List.mem_append_right _ (List.mem_of_getElem? (i := 11) (by decide +kernel))) rfl, by decide +kernel, by decide +kernel, by decide +kernel⟩
theorem wI_X9_isRole : Cond.static yX9_isRole ∈ tkTb := tk_tb (List.mem_append_right _ (List.mem_of_getElem? (i := 834) (by decide +kernel))) rfl
theorem wY_X9_isPlace : tkY yX9_isPlace cX9_isPlace 1 (some .boolean) 1 := ⟨tk_tb (List.mem_append_right _ (List.mem_of_getElem? (i := 810) (by decide +kernel))) rfl, tk_tb (List.mem_append_right _ (List.mem_of_getElem? (i := 11) (by decide +kernel))) rfl, by decide +kernel, by decide +kernel, by decide +kernel⟩
theorem wI_X9_isPlace : Cond.static yX9_isPlace ∈ tkTb := tk_tb (List.mem_append_right _ (List.mem_of_getElem? (i := 809) (by decide +kernel))) rfl
theorem wY_X9_keep : tkY yX9_keep cX9_keep 2 none 0 := ⟨tk_tb (List.mem_append_right _ (List.mem_of_getElem? (i := 816) (by decide +kernel))) rfl, tk_tb (List.mem_append_right _ (List.mem_of_getElem? (i := 11) (by decide +kernel))) rfl, by decide +kernel, by decide +kernel, by decide +kernel⟩
theorem wI_X9_keep : Cond.instanceMethod yX9_keep ∈ tkTb := tk_tb (List.mem_append_right _ (List.mem_of_getElem? (i := 815) (by decide +kernel))) rfl
theorem wS_X9_keep : Cond.selects RX9 yX9_keep yX9_keep ∈ tkTb := tk_tb (List.mem_append_left _ (List.mem_of_getElem? (i := 7) (by decide +kernel))) rfl
theorem wY_X9_undo : tkY yX9_undo cX9_undo 2 (some .int) 0 := ⟨tk_tb (List.mem_append_right _ (List.mem_of_getElem? (i := 795) (by decide +kernel))) rfl, tk_tb (List.mem_append_right _ (List.mem_of_getElem? (i := 11) (by decide +kernel))) rfl, by decide +kernel, by decide +kernel, by decide +kernel⟩
theorem wI_X9_undo : Cond.instanceMethod yX9_undo ∈ tkTb := tk_tb (List.mem_append_right _ (List.mem_of_getElem? (i := 793) (by decide +kernel))) rfl
theorem wS_X9_undo : Cond.selects RX9 yX9_undo yX9_undo ∈ tkTb := tk_tb (List.mem_append_right _ (List.mem_of_getElem? (i := 794) (by decide +kernel))) rfl
theorem wY_X9_tale : tkY yX9_tale cX9_tale 5 (some .int) 3 := ⟨tk_tb (List.mem_append_right _ (List.mem_of_getElem? (i := 804) (by decide +kernel))) rfl, tk_tb (List.mem_append_right _ (List.mem_of_getElem? (i := 11) (by decide +kernel))) rfl, by decide +kernel, by decide +kernel, by decide +kernel⟩
theorem wI_X9_tale : Cond.instanceMethod yX9_tale ∈ tkTb := tk_tb (List.mem_append_right _ (List.mem_of_getElem? (i := 802) (by decide +kernel))) rfl
theorem wS_X9_tale : Cond.selects RX9 yX9_tale yX9_tale ∈ tkTb := tk_tb (List.mem_append_right _ (List.mem_of_getElem? (i := 803) (by decide +kernel))) rfl
theorem wY_X9_as : tkY yX9_as cX9_as 4 (some .int) 2 := ⟨tk_tb (List.mem_append_right _ (List.mem_of_getElem? (i := 820) (by decide +kernel))) rfl, tk_tb (List.mem_append_right _ (List.mem_of_getElem? (i := 11) (by decide +kernel))) rfl, by decide +kernel, by decide +kernel, by decide +kernel⟩
theorem wI_X9_as : Cond.instanceMethod yX9_as ∈ tkTb := tk_tb (List.mem_append_right _ (List.mem_of_getElem? (i := 818) (by decide +kernel))) rfl
theorem wS_X9_as : Cond.selects RX9 yX9_as yX9_as ∈ tkTb := tk_tb (List.mem_append_right _ (List.mem_of_getElem? (i := 819) (by decide +kernel))) rfl
theorem wY_X9_stepOf : tkY yX9_stepOf cX9_stepOf 4 (some .int) 3 := ⟨tk_tb (List.mem_append_right _ (List.mem_of_getElem? (i := 855) (by decide +kernel))) rfl, tk_tb (List.mem_append_right _ (List.mem_of_getElem? (i := 11) (by decide +kernel))) rfl, by decide +kernel, by decide +kernel, by decide +kernel⟩
theorem wI_X9_stepOf : Cond.instanceMethod yX9_stepOf ∈ tkTb := tk_tb (List.mem_append_right _ (List.mem_of_getElem? (i := 854) (by decide +kernel))) rfl
theorem wS_X9_stepOf : Cond.selects RX9 yX9_stepOf yX9_stepOf ∈ tkTb := tk_tb (List.mem_append_left _ (List.mem_of_getElem? (i := 11) (by decide +kernel))) rfl
theorem wY_X9_setStep : tkY yX9_setStep cX9_setStep 7 none 5 := ⟨tk_tb (List.mem_append_right _ (List.mem_of_getElem? (i := 839) (by decide +kernel))) rfl, tk_tb (List.mem_append_right _ (List.mem_of_getElem? (i := 11) (by decide +kernel))) rfl, by decide +kernel, by decide +kernel, by decide +kernel⟩
theorem wI_X9_setStep : Cond.instanceMethod yX9_setStep ∈ tkTb := tk_tb (List.mem_append_right _ (List.mem_of_getElem? (i := 838) (by decide +kernel))) rfl
theorem wS_X9_setStep : Cond.selects RX9 yX9_setStep yX9_setStep ∈ tkTb := tk_tb (List.mem_append_left _ (List.mem_of_getElem? (i := 9) (by decide +kernel))) rfl
theorem wY_X9_step : tkY yX9_step cX9_step 5 (some .int) 4 := ⟨tk_tb (List.mem_append_right _ (List.mem_of_getElem? (i := 829) (by decide +kernel))) rfl, tk_tb (List.mem_append_right _ (List.mem_of_getElem? (i := 11) (by decide +kernel))) rfl, by decide +kernel, by decide +kernel, by decide +kernel⟩
theorem wI_X9_step : Cond.instanceMethod yX9_step ∈ tkTb := tk_tb (List.mem_append_right _ (List.mem_of_getElem? (i := 827) (by decide +kernel))) rfl
theorem wS_X9_step : Cond.selects RX9 yX9_step yX9_step ∈ tkTb := tk_tb (List.mem_append_right _ (List.mem_of_getElem? (i := 828) (by decide +kernel))) rfl
theorem wY_X9_unstep : tkY yX9_unstep cX9_unstep 2 (some .int) 1 := ⟨tk_tb (List.mem_append_right _ (List.mem_of_getElem? (i := 843) (by decide +kernel))) rfl, tk_tb (List.mem_append_right _ (List.mem_of_getElem? (i := 11) (by decide +kernel))) rfl, by decide +kernel, by decide +kernel, by decide +kernel⟩
theorem wI_X9_unstep : Cond.instanceMethod yX9_unstep ∈ tkTb := tk_tb (List.mem_append_right _ (List.mem_of_getElem? (i := 841) (by decide +kernel))) rfl
theorem wS_X9_unstep : Cond.selects RX9 yX9_unstep yX9_unstep ∈ tkTb := tk_tb (List.mem_append_right _ (List.mem_of_getElem? (i := 842) (by decide +kernel))) rfl
theorem wY_X9_isStep : tkY yX9_isStep cX9_isStep 3 (some .boolean) 2 := ⟨tk_tb (List.mem_append_right _ (List.mem_of_getElem? (i := 851) (by decide +kernel))) rfl, tk_tb (List.mem_append_right _ (List.mem_of_getElem? (i := 11) (by decide +kernel))) rfl, by decide +kernel, by decide +kernel, by decide +kernel⟩
theorem wI_X9_isStep : Cond.instanceMethod yX9_isStep ∈ tkTb := tk_tb (List.mem_append_right _ (List.mem_of_getElem? (i := 850) (by decide +kernel))) rfl
theorem wS_X9_isStep : Cond.selects RX9 yX9_isStep yX9_isStep ∈ tkTb := tk_tb (List.mem_append_left _ (List.mem_of_getElem? (i := 10) (by decide +kernel))) rfl
theorem wY_X9_of : tkY yX9_of cX9_of 4 (some .int) 3 := ⟨tk_tb (List.mem_append_right _ (List.mem_of_getElem? (i := 847) (by decide +kernel))) rfl, tk_tb (List.mem_append_right _ (List.mem_of_getElem? (i := 11) (by decide +kernel))) rfl, by decide +kernel, by decide +kernel, by decide +kernel⟩
theorem wI_X9_of : Cond.instanceMethod yX9_of ∈ tkTb := tk_tb (List.mem_append_right _ (List.mem_of_getElem? (i := 845) (by decide +kernel))) rfl
theorem wS_X9_of : Cond.selects RX9 yX9_of yX9_of ∈ tkTb := tk_tb (List.mem_append_right _ (List.mem_of_getElem? (i := 846) (by decide +kernel))) rfl
theorem wY_X9_isCut : tkY yX9_isCut cX9_isCut 2 (some .boolean) 1 := ⟨tk_tb (List.mem_append_right _ (List.mem_of_getElem? (i := 871) (by decide +kernel))) rfl, tk_tb (List.mem_append_right _ (List.mem_of_getElem? (i := 11) (by decide +kernel))) rfl, by decide +kernel, by decide +kernel, by decide +kernel⟩
theorem wI_X9_isCut : Cond.instanceMethod yX9_isCut ∈ tkTb := tk_tb (List.mem_append_right _ (List.mem_of_getElem? (i := 870) (by decide +kernel))) rfl
theorem wS_X9_isCut : Cond.selects RX9 yX9_isCut yX9_isCut ∈ tkTb := tk_tb (List.mem_append_left _ (List.mem_of_getElem? (i := 14) (by decide +kernel))) rfl
theorem wY_X9_laidFrom : tkY yX9_laidFrom cX9_laidFrom 2 (some .int) 1 := ⟨tk_tb (List.mem_append_right _ (List.mem_of_getElem? (i := 867) (by decide +kernel))) rfl, tk_tb (List.mem_append_right _ (List.mem_of_getElem? (i := 11) (by decide +kernel))) rfl, by decide +kernel, by decide +kernel, by decide +kernel⟩
theorem wI_X9_laidFrom : Cond.instanceMethod yX9_laidFrom ∈ tkTb := tk_tb (List.mem_append_right _ (List.mem_of_getElem? (i := 866) (by decide +kernel))) rfl
theorem wS_X9_laidFrom : Cond.selects RX9 yX9_laidFrom yX9_laidFrom ∈ tkTb := tk_tb (List.mem_append_left _ (List.mem_of_getElem? (i := 13) (by decide +kernel))) rfl
theorem wY_X9_laidTo : tkY yX9_laidTo cX9_laidTo 2 (some .int) 1 := ⟨tk_tb (List.mem_append_right _ (List.mem_of_getElem? (i := 863) (by decide +kernel))) rfl, tk_tb (List.mem_append_right _ (List.mem_of_getElem? (i := 11) (by decide +kernel))) rfl, by decide +kernel, by decide +kernel, by decide +kernel⟩
theorem wI_X9_laidTo : Cond.instanceMethod yX9_laidTo ∈ tkTb := tk_tb (List.mem_append_right _ (List.mem_of_getElem? (i := 862) (by decide +kernel))) rfl
theorem wS_X9_laidTo : Cond.selects RX9 yX9_laidTo yX9_laidTo ∈ tkTb := tk_tb (List.mem_append_left _ (List.mem_of_getElem? (i := 12) (by decide +kernel))) rfl
theorem wY_X9_told : tkY yX9_told cX9_told 3 (some .int) 2 := ⟨tk_tb (List.mem_append_right _ (List.mem_of_getElem? (i := 859) (by decide +kernel))) rfl, tk_tb (List.mem_append_right _ (List.mem_of_getElem? (i := 11) (by decide +kernel))) rfl, by decide +kernel, by decide +kernel, by decide +kernel⟩
theorem wI_X9_told : Cond.instanceMethod yX9_told ∈ tkTb := tk_tb (List.mem_append_right _ (List.mem_of_getElem? (i := 857) (by decide +kernel))) rfl
theorem wS_X9_told : Cond.selects RX9 yX9_told yX9_told ∈ tkTb := tk_tb (List.mem_append_right _ (List.mem_of_getElem? (i := 858) (by decide +kernel))) rfl
theorem wY_X9_print : tkY yX9_print cX9_print 4 (some .int) 2 := ⟨tk_tb (List.mem_append_right _ (List.mem_of_getElem? (i := 875) (by decide +kernel))) rfl, tk_tb (List.mem_append_right _ (List.mem_of_getElem? (i := 11) (by decide +kernel))) rfl, by decide +kernel, by decide +kernel, by decide +kernel⟩
theorem wI_X9_print : Cond.instanceMethod yX9_print ∈ tkTb := tk_tb (List.mem_append_right _ (List.mem_of_getElem? (i := 873) (by decide +kernel))) rfl
theorem wS_X9_print : Cond.selects RX9 yX9_print yX9_print ∈ tkTb := tk_tb (List.mem_append_right _ (List.mem_of_getElem? (i := 874) (by decide +kernel))) rfl
theorem wY_X9_recode : tkY yX9_recode cX9_recode 6 (some .int) 2 := ⟨tk_tb (List.mem_append_right _ (List.mem_of_getElem? (i := 880) (by decide +kernel))) rfl, tk_tb (List.mem_append_right _ (List.mem_of_getElem? (i := 11) (by decide +kernel))) rfl, by decide +kernel, by decide +kernel, by decide +kernel⟩
theorem wI_X9_recode : Cond.instanceMethod yX9_recode ∈ tkTb := tk_tb (List.mem_append_right _ (List.mem_of_getElem? (i := 878) (by decide +kernel))) rfl
theorem wS_X9_recode : Cond.selects RX9 yX9_recode yX9_recode ∈ tkTb := tk_tb (List.mem_append_right _ (List.mem_of_getElem? (i := 879) (by decide +kernel))) rfl
theorem wY_X9_price : tkY yX9_price cX9_price 4 (some .int) 2 := ⟨tk_tb (List.mem_append_right _ (List.mem_of_getElem? (i := 884) (by decide +kernel))) rfl, tk_tb (List.mem_append_right _ (List.mem_of_getElem? (i := 11) (by decide +kernel))) rfl, by decide +kernel, by decide +kernel, by decide +kernel⟩
theorem wI_X9_price : Cond.instanceMethod yX9_price ∈ tkTb := tk_tb (List.mem_append_right _ (List.mem_of_getElem? (i := 882) (by decide +kernel))) rfl
theorem wS_X9_price : Cond.selects RX9 yX9_price yX9_price ∈ tkTb := tk_tb (List.mem_append_right _ (List.mem_of_getElem? (i := 883) (by decide +kernel))) rfl
theorem wY_X9_way : tkY yX9_way cX9_way 5 (some .int) 3 := ⟨tk_tb (List.mem_append_right _ (List.mem_of_getElem? (i := 888) (by decide +kernel))) rfl, tk_tb (List.mem_append_right _ (List.mem_of_getElem? (i := 11) (by decide +kernel))) rfl, by decide +kernel, by decide +kernel, by decide +kernel⟩
theorem wI_X9_way : Cond.instanceMethod yX9_way ∈ tkTb := tk_tb (List.mem_append_right _ (List.mem_of_getElem? (i := 886) (by decide +kernel))) rfl
theorem wS_X9_way : Cond.selects RX9 yX9_way yX9_way ∈ tkTb := tk_tb (List.mem_append_right _ (List.mem_of_getElem? (i := 887) (by decide +kernel))) rfl
theorem wY_X9_carry : tkY yX9_carry cX9_carry 9 none 1 := ⟨tk_tb (List.mem_append_right _ (List.mem_of_getElem? (i := 922) (by decide +kernel))) rfl, tk_tb (List.mem_append_right _ (List.mem_of_getElem? (i := 11) (by decide +kernel))) rfl, by decide +kernel, by decide +kernel, by decide +kernel⟩
theorem wI_X9_carry : Cond.instanceMethod yX9_carry ∈ tkTb := tk_tb (List.mem_append_right _ (List.mem_of_getElem? (i := 921) (by decide +kernel))) rfl
theorem wS_X9_carry : Cond.selects RX9 yX9_carry yX9_carry ∈ tkTb := tk_tb (List.mem_append_left _ (List.mem_of_getElem? (i := 21) (by decide +kernel))) rfl
theorem wY_X9_isTorn : tkY yX9_isTorn cX9_isTorn 2 (some .boolean) 1 := ⟨tk_tb (List.mem_append_right _ (List.mem_of_getElem? (i := 905) (by decide +kernel))) rfl, tk_tb (List.mem_append_right _ (List.mem_of_getElem? (i := 11) (by decide +kernel))) rfl, by decide +kernel, by decide +kernel, by decide +kernel⟩
theorem wI_X9_isTorn : Cond.instanceMethod yX9_isTorn ∈ tkTb := tk_tb (List.mem_append_right _ (List.mem_of_getElem? (i := 904) (by decide +kernel))) rfl
theorem wS_X9_isTorn : Cond.selects RX9 yX9_isTorn yX9_isTorn ∈ tkTb := tk_tb (List.mem_append_left _ (List.mem_of_getElem? (i := 17) (by decide +kernel))) rfl
theorem wY_X9_takeTwo : tkY yX9_takeTwo cX9_takeTwo 3 none 2 := ⟨tk_tb (List.mem_append_right _ (List.mem_of_getElem? (i := 901) (by decide +kernel))) rfl, tk_tb (List.mem_append_right _ (List.mem_of_getElem? (i := 11) (by decide +kernel))) rfl, by decide +kernel, by decide +kernel, by decide +kernel⟩
theorem wI_X9_takeTwo : Cond.instanceMethod yX9_takeTwo ∈ tkTb := tk_tb (List.mem_append_right _ (List.mem_of_getElem? (i := 900) (by decide +kernel))) rfl
theorem wS_X9_takeTwo : Cond.selects RX9 yX9_takeTwo yX9_takeTwo ∈ tkTb := tk_tb (List.mem_append_left _ (List.mem_of_getElem? (i := 16) (by decide +kernel))) rfl
theorem wY_X9_takeOther : tkY yX9_takeOther cX9_takeOther 2 none 1 := ⟨tk_tb (List.mem_append_right _ (List.mem_of_getElem? (i := 909) (by decide +kernel))) rfl, tk_tb (List.mem_append_right _ (List.mem_of_getElem? (i := 11) (by decide +kernel))) rfl, by decide +kernel, by decide +kernel, by decide +kernel⟩
theorem wI_X9_takeOther : Cond.instanceMethod yX9_takeOther ∈ tkTb := tk_tb (List.mem_append_right _ (List.mem_of_getElem? (i := 908) (by decide +kernel))) rfl
theorem wS_X9_takeOther : Cond.selects RX9 yX9_takeOther yX9_takeOther ∈ tkTb := tk_tb (List.mem_append_left _ (List.mem_of_getElem? (i := 18) (by decide +kernel))) rfl
theorem wY_X9_pairCost : tkY yX9_pairCost cX9_pairCost 5 (some .int) 2 := ⟨tk_tb (List.mem_append_right _ (List.mem_of_getElem? (i := 926) (by decide +kernel))) rfl, tk_tb (List.mem_append_right _ (List.mem_of_getElem? (i := 11) (by decide +kernel))) rfl, by decide +kernel, by decide +kernel, by decide +kernel⟩
theorem wI_X9_pairCost : Cond.instanceMethod yX9_pairCost ∈ tkTb := tk_tb (List.mem_append_right _ (List.mem_of_getElem? (i := 925) (by decide +kernel))) rfl
theorem wS_X9_pairCost : Cond.selects RX9 yX9_pairCost yX9_pairCost ∈ tkTb := tk_tb (List.mem_append_left _ (List.mem_of_getElem? (i := 22) (by decide +kernel))) rfl
theorem wY_X9_endCost : tkY yX9_endCost cX9_endCost 3 (some .int) 2 := ⟨tk_tb (List.mem_append_right _ (List.mem_of_getElem? (i := 938) (by decide +kernel))) rfl, tk_tb (List.mem_append_right _ (List.mem_of_getElem? (i := 11) (by decide +kernel))) rfl, by decide +kernel, by decide +kernel, by decide +kernel⟩
theorem wI_X9_endCost : Cond.instanceMethod yX9_endCost ∈ tkTb := tk_tb (List.mem_append_right _ (List.mem_of_getElem? (i := 937) (by decide +kernel))) rfl
theorem wS_X9_endCost : Cond.selects RX9 yX9_endCost yX9_endCost ∈ tkTb := tk_tb (List.mem_append_left _ (List.mem_of_getElem? (i := 25) (by decide +kernel))) rfl
theorem wY_X9_pairsLeft : tkY yX9_pairsLeft cX9_pairsLeft 3 (some .int) 2 := ⟨tk_tb (List.mem_append_right _ (List.mem_of_getElem? (i := 934) (by decide +kernel))) rfl, tk_tb (List.mem_append_right _ (List.mem_of_getElem? (i := 11) (by decide +kernel))) rfl, by decide +kernel, by decide +kernel, by decide +kernel⟩
theorem wI_X9_pairsLeft : Cond.instanceMethod yX9_pairsLeft ∈ tkTb := tk_tb (List.mem_append_right _ (List.mem_of_getElem? (i := 933) (by decide +kernel))) rfl
theorem wS_X9_pairsLeft : Cond.selects RX9 yX9_pairsLeft yX9_pairsLeft ∈ tkTb := tk_tb (List.mem_append_left _ (List.mem_of_getElem? (i := 24) (by decide +kernel))) rfl
theorem wY_X9_leastFrom : tkY yX9_leastFrom cX9_leastFrom 3 (some .int) 2 := ⟨tk_tb (List.mem_append_right _ (List.mem_of_getElem? (i := 930) (by decide +kernel))) rfl, tk_tb (List.mem_append_right _ (List.mem_of_getElem? (i := 11) (by decide +kernel))) rfl, by decide +kernel, by decide +kernel, by decide +kernel⟩
theorem wI_X9_leastFrom : Cond.instanceMethod yX9_leastFrom ∈ tkTb := tk_tb (List.mem_append_right _ (List.mem_of_getElem? (i := 929) (by decide +kernel))) rfl
theorem wS_X9_leastFrom : Cond.selects RX9 yX9_leastFrom yX9_leastFrom ∈ tkTb := tk_tb (List.mem_append_left _ (List.mem_of_getElem? (i := 23) (by decide +kernel))) rfl
theorem wY_X9_layBy : tkY yX9_layBy cX9_layBy 5 (some .int) 1 := ⟨tk_tb (List.mem_append_right _ (List.mem_of_getElem? (i := 918) (by decide +kernel))) rfl, tk_tb (List.mem_append_right _ (List.mem_of_getElem? (i := 11) (by decide +kernel))) rfl, by decide +kernel, by decide +kernel, by decide +kernel⟩
theorem wI_X9_layBy : Cond.instanceMethod yX9_layBy ∈ tkTb := tk_tb (List.mem_append_right _ (List.mem_of_getElem? (i := 917) (by decide +kernel))) rfl
theorem wS_X9_layBy : Cond.selects RX9 yX9_layBy yX9_layBy ∈ tkTb := tk_tb (List.mem_append_left _ (List.mem_of_getElem? (i := 20) (by decide +kernel))) rfl
theorem wY_X9_leastCost : tkY yX9_leastCost cX9_leastCost 4 (some .int) 0 := ⟨tk_tb (List.mem_append_right _ (List.mem_of_getElem? (i := 913) (by decide +kernel))) rfl, tk_tb (List.mem_append_right _ (List.mem_of_getElem? (i := 11) (by decide +kernel))) rfl, by decide +kernel, by decide +kernel, by decide +kernel⟩
theorem wI_X9_leastCost : Cond.instanceMethod yX9_leastCost ∈ tkTb := tk_tb (List.mem_append_right _ (List.mem_of_getElem? (i := 912) (by decide +kernel))) rfl
theorem wS_X9_leastCost : Cond.selects RX9 yX9_leastCost yX9_leastCost ∈ tkTb := tk_tb (List.mem_append_left _ (List.mem_of_getElem? (i := 19) (by decide +kernel))) rfl
theorem wY_X9_costOf : tkY yX9_costOf cX9_costOf 3 (some .int) 2 := ⟨tk_tb (List.mem_append_right _ (List.mem_of_getElem? (i := 897) (by decide +kernel))) rfl, tk_tb (List.mem_append_right _ (List.mem_of_getElem? (i := 11) (by decide +kernel))) rfl, by decide +kernel, by decide +kernel, by decide +kernel⟩
theorem wI_X9_costOf : Cond.instanceMethod yX9_costOf ∈ tkTb := tk_tb (List.mem_append_right _ (List.mem_of_getElem? (i := 896) (by decide +kernel))) rfl
theorem wS_X9_costOf : Cond.selects RX9 yX9_costOf yX9_costOf ∈ tkTb := tk_tb (List.mem_append_left _ (List.mem_of_getElem? (i := 15) (by decide +kernel))) rfl
theorem wY_X9_cost : tkY yX9_cost cX9_cost 3 (some .int) 2 := ⟨tk_tb (List.mem_append_right _ (List.mem_of_getElem? (i := 893) (by decide +kernel))) rfl, tk_tb (List.mem_append_right _ (List.mem_of_getElem? (i := 11) (by decide +kernel))) rfl, by decide +kernel, by decide +kernel, by decide +kernel⟩
theorem wI_X9_cost : Cond.instanceMethod yX9_cost ∈ tkTb := tk_tb (List.mem_append_right _ (List.mem_of_getElem? (i := 891) (by decide +kernel))) rfl
theorem wS_X9_cost : Cond.selects RX9 yX9_cost yX9_cost ∈ tkTb := tk_tb (List.mem_append_right _ (List.mem_of_getElem? (i := 892) (by decide +kernel))) rfl
theorem wY_X9_carried : tkY yX9_carried cX9_carried 5 (some .int) 3 := ⟨tk_tb (List.mem_append_right _ (List.mem_of_getElem? (i := 943) (by decide +kernel))) rfl, tk_tb (List.mem_append_right _ (List.mem_of_getElem? (i := 11) (by decide +kernel))) rfl, by decide +kernel, by decide +kernel, by decide +kernel⟩
theorem wI_X9_carried : Cond.instanceMethod yX9_carried ∈ tkTb := tk_tb (List.mem_append_right _ (List.mem_of_getElem? (i := 941) (by decide +kernel))) rfl
theorem wS_X9_carried : Cond.selects RX9 yX9_carried yX9_carried ∈ tkTb := tk_tb (List.mem_append_right _ (List.mem_of_getElem? (i := 942) (by decide +kernel))) rfl
theorem wY_X9_findPairs : tkY yX9_findPairs cX9_findPairs 8 none 2 := ⟨tk_tb (List.mem_append_right _ (List.mem_of_getElem? (i := 951) (by decide +kernel))) rfl, tk_tb (List.mem_append_right _ (List.mem_of_getElem? (i := 11) (by decide +kernel))) rfl, by decide +kernel, by decide +kernel, by decide +kernel⟩
theorem wI_X9_findPairs : Cond.instanceMethod yX9_findPairs ∈ tkTb := tk_tb (List.mem_append_right _ (List.mem_of_getElem? (i := 950) (by decide +kernel))) rfl
theorem wS_X9_findPairs : Cond.selects RX9 yX9_findPairs yX9_findPairs ∈ tkTb := tk_tb (List.mem_append_left _ (List.mem_of_getElem? (i := 26) (by decide +kernel))) rfl
theorem wY_X9_pair : tkY yX9_pair cX9_pair 4 (some .int) 3 := ⟨tk_tb (List.mem_append_right _ (List.mem_of_getElem? (i := 947) (by decide +kernel))) rfl, tk_tb (List.mem_append_right _ (List.mem_of_getElem? (i := 11) (by decide +kernel))) rfl, by decide +kernel, by decide +kernel, by decide +kernel⟩
theorem wI_X9_pair : Cond.instanceMethod yX9_pair ∈ tkTb := tk_tb (List.mem_append_right _ (List.mem_of_getElem? (i := 945) (by decide +kernel))) rfl
theorem wS_X9_pair : Cond.selects RX9 yX9_pair yX9_pair ∈ tkTb := tk_tb (List.mem_append_right _ (List.mem_of_getElem? (i := 946) (by decide +kernel))) rfl
theorem wY_X9_pairs : tkY yX9_pairs cX9_pairs 6 (some .int) 3 := ⟨tk_tb (List.mem_append_right _ (List.mem_of_getElem? (i := 955) (by decide +kernel))) rfl, tk_tb (List.mem_append_right _ (List.mem_of_getElem? (i := 11) (by decide +kernel))) rfl, by decide +kernel, by decide +kernel, by decide +kernel⟩
theorem wI_X9_pairs : Cond.instanceMethod yX9_pairs ∈ tkTb := tk_tb (List.mem_append_right _ (List.mem_of_getElem? (i := 953) (by decide +kernel))) rfl
theorem wS_X9_pairs : Cond.selects RX9 yX9_pairs yX9_pairs ∈ tkTb := tk_tb (List.mem_append_right _ (List.mem_of_getElem? (i := 954) (by decide +kernel))) rfl
theorem wY_X9_noHeap : tkY yX9_noHeap cX9_noHeap 2 (some .int) 1 := ⟨tk_tb (List.mem_append_right _ (List.mem_of_getElem? (i := 963) (by decide +kernel))) rfl, tk_tb (List.mem_append_right _ (List.mem_of_getElem? (i := 11) (by decide +kernel))) rfl, by decide +kernel, by decide +kernel, by decide +kernel⟩
theorem wI_X9_noHeap : Cond.instanceMethod yX9_noHeap ∈ tkTb := tk_tb (List.mem_append_right _ (List.mem_of_getElem? (i := 962) (by decide +kernel))) rfl
theorem wS_X9_noHeap : Cond.selects RX9 yX9_noHeap yX9_noHeap ∈ tkTb := tk_tb (List.mem_append_left _ (List.mem_of_getElem? (i := 27) (by decide +kernel))) rfl
theorem wY_X9_sumOf : tkY yX9_sumOf cX9_sumOf 5 (some .int) 2 := ⟨tk_tb (List.mem_append_right _ (List.mem_of_getElem? (i := 971) (by decide +kernel))) rfl, tk_tb (List.mem_append_right _ (List.mem_of_getElem? (i := 11) (by decide +kernel))) rfl, by decide +kernel, by decide +kernel, by decide +kernel⟩
theorem wI_X9_sumOf : Cond.instanceMethod yX9_sumOf ∈ tkTb := tk_tb (List.mem_append_right _ (List.mem_of_getElem? (i := 970) (by decide +kernel))) rfl
theorem wS_X9_sumOf : Cond.selects RX9 yX9_sumOf yX9_sumOf ∈ tkTb := tk_tb (List.mem_append_left _ (List.mem_of_getElem? (i := 29) (by decide +kernel))) rfl
theorem wY_X9_mouldOf : tkY yX9_mouldOf cX9_mouldOf 5 (some .int) 1 := ⟨tk_tb (List.mem_append_right _ (List.mem_of_getElem? (i := 967) (by decide +kernel))) rfl, tk_tb (List.mem_append_right _ (List.mem_of_getElem? (i := 11) (by decide +kernel))) rfl, by decide +kernel, by decide +kernel, by decide +kernel⟩
theorem wI_X9_mouldOf : Cond.instanceMethod yX9_mouldOf ∈ tkTb := tk_tb (List.mem_append_right _ (List.mem_of_getElem? (i := 966) (by decide +kernel))) rfl
theorem wS_X9_mouldOf : Cond.selects RX9 yX9_mouldOf yX9_mouldOf ∈ tkTb := tk_tb (List.mem_append_left _ (List.mem_of_getElem? (i := 28) (by decide +kernel))) rfl
theorem wY_X9_mould : tkY yX9_mould cX9_mould 2 (some .int) 1 := ⟨tk_tb (List.mem_append_right _ (List.mem_of_getElem? (i := 959) (by decide +kernel))) rfl, tk_tb (List.mem_append_right _ (List.mem_of_getElem? (i := 11) (by decide +kernel))) rfl, by decide +kernel, by decide +kernel, by decide +kernel⟩
theorem wI_X9_mould : Cond.instanceMethod yX9_mould ∈ tkTb := tk_tb (List.mem_append_right _ (List.mem_of_getElem? (i := 957) (by decide +kernel))) rfl
theorem wS_X9_mould : Cond.selects RX9 yX9_mould yX9_mould ∈ tkTb := tk_tb (List.mem_append_right _ (List.mem_of_getElem? (i := 958) (by decide +kernel))) rfl
theorem wY_X9_spread : tkY yX9_spread cX9_spread 3 (some .int) 1 := ⟨tk_tb (List.mem_append_right _ (List.mem_of_getElem? (i := 975) (by decide +kernel))) rfl, tk_tb (List.mem_append_right _ (List.mem_of_getElem? (i := 11) (by decide +kernel))) rfl, by decide +kernel, by decide +kernel, by decide +kernel⟩
theorem wI_X9_spread : Cond.instanceMethod yX9_spread ∈ tkTb := tk_tb (List.mem_append_right _ (List.mem_of_getElem? (i := 973) (by decide +kernel))) rfl
theorem wS_X9_spread : Cond.selects RX9 yX9_spread yX9_spread ∈ tkTb := tk_tb (List.mem_append_right _ (List.mem_of_getElem? (i := 974) (by decide +kernel))) rfl
theorem wY_X9_findTree : tkY yX9_findTree cX9_findTree 6 none 1 := ⟨tk_tb (List.mem_append_right _ (List.mem_of_getElem? (i := 983) (by decide +kernel))) rfl, tk_tb (List.mem_append_right _ (List.mem_of_getElem? (i := 11) (by decide +kernel))) rfl, by decide +kernel, by decide +kernel, by decide +kernel⟩
theorem wI_X9_findTree : Cond.instanceMethod yX9_findTree ∈ tkTb := tk_tb (List.mem_append_right _ (List.mem_of_getElem? (i := 982) (by decide +kernel))) rfl
theorem wS_X9_findTree : Cond.selects RX9 yX9_findTree yX9_findTree ∈ tkTb := tk_tb (List.mem_append_left _ (List.mem_of_getElem? (i := 30) (by decide +kernel))) rfl
theorem wY_X9_nextBranch : tkY yX9_nextBranch cX9_nextBranch 5 (some .int) 0 := ⟨tk_tb (List.mem_append_right _ (List.mem_of_getElem? (i := 987) (by decide +kernel))) rfl, tk_tb (List.mem_append_right _ (List.mem_of_getElem? (i := 11) (by decide +kernel))) rfl, by decide +kernel, by decide +kernel, by decide +kernel⟩
theorem wI_X9_nextBranch : Cond.instanceMethod yX9_nextBranch ∈ tkTb := tk_tb (List.mem_append_right _ (List.mem_of_getElem? (i := 986) (by decide +kernel))) rfl
theorem wS_X9_nextBranch : Cond.selects RX9 yX9_nextBranch yX9_nextBranch ∈ tkTb := tk_tb (List.mem_append_left _ (List.mem_of_getElem? (i := 31) (by decide +kernel))) rfl
theorem wY_X9_tree : tkY yX9_tree cX9_tree 2 (some .int) 1 := ⟨tk_tb (List.mem_append_right _ (List.mem_of_getElem? (i := 979) (by decide +kernel))) rfl, tk_tb (List.mem_append_right _ (List.mem_of_getElem? (i := 11) (by decide +kernel))) rfl, by decide +kernel, by decide +kernel, by decide +kernel⟩
theorem wI_X9_tree : Cond.instanceMethod yX9_tree ∈ tkTb := tk_tb (List.mem_append_right _ (List.mem_of_getElem? (i := 977) (by decide +kernel))) rfl
theorem wS_X9_tree : Cond.selects RX9 yX9_tree yX9_tree ∈ tkTb := tk_tb (List.mem_append_right _ (List.mem_of_getElem? (i := 978) (by decide +kernel))) rfl
theorem wY_X9_branch : tkY yX9_branch cX9_branch 3 (some .int) 2 := ⟨tk_tb (List.mem_append_right _ (List.mem_of_getElem? (i := 991) (by decide +kernel))) rfl, tk_tb (List.mem_append_right _ (List.mem_of_getElem? (i := 11) (by decide +kernel))) rfl, by decide +kernel, by decide +kernel, by decide +kernel⟩
theorem wI_X9_branch : Cond.instanceMethod yX9_branch ∈ tkTb := tk_tb (List.mem_append_right _ (List.mem_of_getElem? (i := 989) (by decide +kernel))) rfl
theorem wS_X9_branch : Cond.selects RX9 yX9_branch yX9_branch ∈ tkTb := tk_tb (List.mem_append_right _ (List.mem_of_getElem? (i := 990) (by decide +kernel))) rfl
theorem wY_X9_nearest : tkY yX9_nearest cX9_nearest 6 (some .int) 1 := ⟨tk_tb (List.mem_append_right _ (List.mem_of_getElem? (i := 995) (by decide +kernel))) rfl, tk_tb (List.mem_append_right _ (List.mem_of_getElem? (i := 11) (by decide +kernel))) rfl, by decide +kernel, by decide +kernel, by decide +kernel⟩
theorem wI_X9_nearest : Cond.instanceMethod yX9_nearest ∈ tkTb := tk_tb (List.mem_append_right _ (List.mem_of_getElem? (i := 993) (by decide +kernel))) rfl
theorem wS_X9_nearest : Cond.selects RX9 yX9_nearest yX9_nearest ∈ tkTb := tk_tb (List.mem_append_right _ (List.mem_of_getElem? (i := 994) (by decide +kernel))) rfl
theorem wY_X9_sourceOf : tkY yX9_sourceOf cX9_sourceOf 8 (some .int) 1 := ⟨tk_tb (List.mem_append_right _ (List.mem_of_getElem? (i := 1003) (by decide +kernel))) rfl, tk_tb (List.mem_append_right _ (List.mem_of_getElem? (i := 11) (by decide +kernel))) rfl, by decide +kernel, by decide +kernel, by decide +kernel⟩
theorem wI_X9_sourceOf : Cond.instanceMethod yX9_sourceOf ∈ tkTb := tk_tb (List.mem_append_right _ (List.mem_of_getElem? (i := 1002) (by decide +kernel))) rfl
theorem wS_X9_sourceOf : Cond.selects RX9 yX9_sourceOf yX9_sourceOf ∈ tkTb := tk_tb (List.mem_append_left _ (List.mem_of_getElem? (i := 32) (by decide +kernel))) rfl
theorem wY_X9_source : tkY yX9_source cX9_source 3 (some .int) 1 := ⟨tk_tb (List.mem_append_right _ (List.mem_of_getElem? (i := 999) (by decide +kernel))) rfl, tk_tb (List.mem_append_right _ (List.mem_of_getElem? (i := 11) (by decide +kernel))) rfl, by decide +kernel, by decide +kernel, by decide +kernel⟩
theorem wI_X9_source : Cond.instanceMethod yX9_source ∈ tkTb := tk_tb (List.mem_append_right _ (List.mem_of_getElem? (i := 997) (by decide +kernel))) rfl
theorem wS_X9_source : Cond.selects RX9 yX9_source yX9_source ∈ tkTb := tk_tb (List.mem_append_right _ (List.mem_of_getElem? (i := 998) (by decide +kernel))) rfl
theorem wY_X9_first : tkY yX9_first cX9_first 5 (some .int) 1 := ⟨tk_tb (List.mem_append_right _ (List.mem_of_getElem? (i := 1007) (by decide +kernel))) rfl, tk_tb (List.mem_append_right _ (List.mem_of_getElem? (i := 11) (by decide +kernel))) rfl, by decide +kernel, by decide +kernel, by decide +kernel⟩
theorem wI_X9_first : Cond.instanceMethod yX9_first ∈ tkTb := tk_tb (List.mem_append_right _ (List.mem_of_getElem? (i := 1005) (by decide +kernel))) rfl
theorem wS_X9_first : Cond.selects RX9 yX9_first yX9_first ∈ tkTb := tk_tb (List.mem_append_right _ (List.mem_of_getElem? (i := 1006) (by decide +kernel))) rfl
theorem wY_X9_same : tkY yX9_same cX9_same 6 (some .int) 4 := ⟨tk_tb (List.mem_append_right _ (List.mem_of_getElem? (i := 1019) (by decide +kernel))) rfl, tk_tb (List.mem_append_right _ (List.mem_of_getElem? (i := 11) (by decide +kernel))) rfl, by decide +kernel, by decide +kernel, by decide +kernel⟩
theorem wI_X9_same : Cond.instanceMethod yX9_same ∈ tkTb := tk_tb (List.mem_append_right _ (List.mem_of_getElem? (i := 1018) (by decide +kernel))) rfl
theorem wS_X9_same : Cond.selects RX9 yX9_same yX9_same ∈ tkTb := tk_tb (List.mem_append_left _ (List.mem_of_getElem? (i := 34) (by decide +kernel))) rfl
theorem wY_X9_isSame : tkY yX9_isSame cX9_isSame 5 (some .boolean) 4 := ⟨tk_tb (List.mem_append_right _ (List.mem_of_getElem? (i := 1023) (by decide +kernel))) rfl, tk_tb (List.mem_append_right _ (List.mem_of_getElem? (i := 11) (by decide +kernel))) rfl, by decide +kernel, by decide +kernel, by decide +kernel⟩
theorem wI_X9_isSame : Cond.instanceMethod yX9_isSame ∈ tkTb := tk_tb (List.mem_append_right _ (List.mem_of_getElem? (i := 1022) (by decide +kernel))) rfl
theorem wS_X9_isSame : Cond.selects RX9 yX9_isSame yX9_isSame ∈ tkTb := tk_tb (List.mem_append_left _ (List.mem_of_getElem? (i := 35) (by decide +kernel))) rfl
theorem wY_X9_findPiece : tkY yX9_findPiece cX9_findPiece 7 none 2 := ⟨tk_tb (List.mem_append_right _ (List.mem_of_getElem? (i := 1015) (by decide +kernel))) rfl, tk_tb (List.mem_append_right _ (List.mem_of_getElem? (i := 11) (by decide +kernel))) rfl, by decide +kernel, by decide +kernel, by decide +kernel⟩
theorem wI_X9_findPiece : Cond.instanceMethod yX9_findPiece ∈ tkTb := tk_tb (List.mem_append_right _ (List.mem_of_getElem? (i := 1014) (by decide +kernel))) rfl
theorem wS_X9_findPiece : Cond.selects RX9 yX9_findPiece yX9_findPiece ∈ tkTb := tk_tb (List.mem_append_left _ (List.mem_of_getElem? (i := 33) (by decide +kernel))) rfl
theorem wY_X9_borrowed : tkY yX9_borrowed cX9_borrowed 4 (some .int) 3 := ⟨tk_tb (List.mem_append_right _ (List.mem_of_getElem? (i := 1011) (by decide +kernel))) rfl, tk_tb (List.mem_append_right _ (List.mem_of_getElem? (i := 11) (by decide +kernel))) rfl, by decide +kernel, by decide +kernel, by decide +kernel⟩
theorem wI_X9_borrowed : Cond.instanceMethod yX9_borrowed ∈ tkTb := tk_tb (List.mem_append_right _ (List.mem_of_getElem? (i := 1009) (by decide +kernel))) rfl
theorem wS_X9_borrowed : Cond.selects RX9 yX9_borrowed yX9_borrowed ∈ tkTb := tk_tb (List.mem_append_right _ (List.mem_of_getElem? (i := 1010) (by decide +kernel))) rfl
theorem wY_X9_partCost : tkY yX9_partCost cX9_partCost 5 (some .int) 4 := ⟨tk_tb (List.mem_append_right _ (List.mem_of_getElem? (i := 1031) (by decide +kernel))) rfl, tk_tb (List.mem_append_right _ (List.mem_of_getElem? (i := 11) (by decide +kernel))) rfl, by decide +kernel, by decide +kernel, by decide +kernel⟩
theorem wI_X9_partCost : Cond.instanceMethod yX9_partCost ∈ tkTb := tk_tb (List.mem_append_right _ (List.mem_of_getElem? (i := 1030) (by decide +kernel))) rfl
theorem wS_X9_partCost : Cond.selects RX9 yX9_partCost yX9_partCost ∈ tkTb := tk_tb (List.mem_append_left _ (List.mem_of_getElem? (i := 36) (by decide +kernel))) rfl
theorem wY_X9_joined : tkY yX9_joined cX9_joined 9 (some .int) 4 := ⟨tk_tb (List.mem_append_right _ (List.mem_of_getElem? (i := 1027) (by decide +kernel))) rfl, tk_tb (List.mem_append_right _ (List.mem_of_getElem? (i := 11) (by decide +kernel))) rfl, by decide +kernel, by decide +kernel, by decide +kernel⟩
theorem wI_X9_joined : Cond.instanceMethod yX9_joined ∈ tkTb := tk_tb (List.mem_append_right _ (List.mem_of_getElem? (i := 1025) (by decide +kernel))) rfl
theorem wS_X9_joined : Cond.selects RX9 yX9_joined yX9_joined ∈ tkTb := tk_tb (List.mem_append_right _ (List.mem_of_getElem? (i := 1026) (by decide +kernel))) rfl
theorem wY_X9_counts : tkY yX9_counts cX9_counts 7 (some .int) 3 := ⟨tk_tb (List.mem_append_right _ (List.mem_of_getElem? (i := 1039) (by decide +kernel))) rfl, tk_tb (List.mem_append_right _ (List.mem_of_getElem? (i := 11) (by decide +kernel))) rfl, by decide +kernel, by decide +kernel, by decide +kernel⟩
theorem wI_X9_counts : Cond.instanceMethod yX9_counts ∈ tkTb := tk_tb (List.mem_append_right _ (List.mem_of_getElem? (i := 1038) (by decide +kernel))) rfl
theorem wS_X9_counts : Cond.selects RX9 yX9_counts yX9_counts ∈ tkTb := tk_tb (List.mem_append_left _ (List.mem_of_getElem? (i := 37) (by decide +kernel))) rfl
theorem wY_X9_count : tkY yX9_count cX9_count 4 (some .int) 3 := ⟨tk_tb (List.mem_append_right _ (List.mem_of_getElem? (i := 1035) (by decide +kernel))) rfl, tk_tb (List.mem_append_right _ (List.mem_of_getElem? (i := 11) (by decide +kernel))) rfl, by decide +kernel, by decide +kernel, by decide +kernel⟩
theorem wI_X9_count : Cond.instanceMethod yX9_count ∈ tkTb := tk_tb (List.mem_append_right _ (List.mem_of_getElem? (i := 1033) (by decide +kernel))) rfl
theorem wS_X9_count : Cond.selects RX9 yX9_count yX9_count ∈ tkTb := tk_tb (List.mem_append_right _ (List.mem_of_getElem? (i := 1034) (by decide +kernel))) rfl
theorem wY_X9_home : tkY yX9_home cX9_home 4 (some .int) 1 := ⟨tk_tb (List.mem_append_right _ (List.mem_of_getElem? (i := 1043) (by decide +kernel))) rfl, tk_tb (List.mem_append_right _ (List.mem_of_getElem? (i := 11) (by decide +kernel))) rfl, by decide +kernel, by decide +kernel, by decide +kernel⟩
theorem wI_X9_home : Cond.instanceMethod yX9_home ∈ tkTb := tk_tb (List.mem_append_right _ (List.mem_of_getElem? (i := 1041) (by decide +kernel))) rfl
theorem wS_X9_home : Cond.selects RX9 yX9_home yX9_home ∈ tkTb := tk_tb (List.mem_append_right _ (List.mem_of_getElem? (i := 1042) (by decide +kernel))) rfl
theorem wY_X9_isSheet : tkY yX9_isSheet cX9_isSheet 1 (some .boolean) 1 := ⟨tk_tb (List.mem_append_right _ (List.mem_of_getElem? (i := 1050) (by decide +kernel))) rfl, tk_tb (List.mem_append_right _ (List.mem_of_getElem? (i := 11) (by decide +kernel))) rfl, by decide +kernel, by decide +kernel, by decide +kernel⟩
theorem wI_X9_isSheet : Cond.static yX9_isSheet ∈ tkTb := tk_tb (List.mem_append_right _ (List.mem_of_getElem? (i := 1049) (by decide +kernel))) rfl
theorem wY_X9_sheet : tkY yX9_sheet cX9_sheet 5 (some .int) 3 := ⟨tk_tb (List.mem_append_right _ (List.mem_of_getElem? (i := 1047) (by decide +kernel))) rfl, tk_tb (List.mem_append_right _ (List.mem_of_getElem? (i := 11) (by decide +kernel))) rfl, by decide +kernel, by decide +kernel, by decide +kernel⟩
theorem wI_X9_sheet : Cond.instanceMethod yX9_sheet ∈ tkTb := tk_tb (List.mem_append_right _ (List.mem_of_getElem? (i := 1045) (by decide +kernel))) rfl
theorem wS_X9_sheet : Cond.selects RX9 yX9_sheet yX9_sheet ∈ tkTb := tk_tb (List.mem_append_right _ (List.mem_of_getElem? (i := 1046) (by decide +kernel))) rfl
theorem wY_X9_put : tkY yX9_put cX9_put 5 (some .int) 3 := ⟨tk_tb (List.mem_append_right _ (List.mem_of_getElem? (i := 1054) (by decide +kernel))) rfl, tk_tb (List.mem_append_right _ (List.mem_of_getElem? (i := 11) (by decide +kernel))) rfl, by decide +kernel, by decide +kernel, by decide +kernel⟩
theorem wI_X9_put : Cond.instanceMethod yX9_put ∈ tkTb := tk_tb (List.mem_append_right _ (List.mem_of_getElem? (i := 1052) (by decide +kernel))) rfl
theorem wS_X9_put : Cond.selects RX9 yX9_put yX9_put ∈ tkTb := tk_tb (List.mem_append_right _ (List.mem_of_getElem? (i := 1053) (by decide +kernel))) rfl
theorem wY_X9_copy : tkY yX9_copy cX9_copy 7 (some .int) 5 := ⟨tk_tb (List.mem_append_right _ (List.mem_of_getElem? (i := 1059) (by decide +kernel))) rfl, tk_tb (List.mem_append_right _ (List.mem_of_getElem? (i := 11) (by decide +kernel))) rfl, by decide +kernel, by decide +kernel, by decide +kernel⟩
theorem wI_X9_copy : Cond.instanceMethod yX9_copy ∈ tkTb := tk_tb (List.mem_append_right _ (List.mem_of_getElem? (i := 1057) (by decide +kernel))) rfl
theorem wS_X9_copy : Cond.selects RX9 yX9_copy yX9_copy ∈ tkTb := tk_tb (List.mem_append_right _ (List.mem_of_getElem? (i := 1058) (by decide +kernel))) rfl
theorem wY_X9_lay : tkY yX9_lay cX9_lay 6 (some .int) 2 := ⟨tk_tb (List.mem_append_right _ (List.mem_of_getElem? (i := 1063) (by decide +kernel))) rfl, tk_tb (List.mem_append_right _ (List.mem_of_getElem? (i := 11) (by decide +kernel))) rfl, by decide +kernel, by decide +kernel, by decide +kernel⟩
theorem wI_X9_lay : Cond.instanceMethod yX9_lay ∈ tkTb := tk_tb (List.mem_append_right _ (List.mem_of_getElem? (i := 1061) (by decide +kernel))) rfl
theorem wS_X9_lay : Cond.selects RX9 yX9_lay yX9_lay ∈ tkTb := tk_tb (List.mem_append_right _ (List.mem_of_getElem? (i := 1062) (by decide +kernel))) rfl
theorem wY_X9_all : tkY yX9_all cX9_all 4 (some .int) 1 := ⟨tk_tb (List.mem_append_right _ (List.mem_of_getElem? (i := 1067) (by decide +kernel))) rfl, tk_tb (List.mem_append_right _ (List.mem_of_getElem? (i := 11) (by decide +kernel))) rfl, by decide +kernel, by decide +kernel, by decide +kernel⟩
theorem wI_X9_all : Cond.instanceMethod yX9_all ∈ tkTb := tk_tb (List.mem_append_right _ (List.mem_of_getElem? (i := 1065) (by decide +kernel))) rfl
theorem wS_X9_all : Cond.selects RX9 yX9_all yX9_all ∈ tkTb := tk_tb (List.mem_append_right _ (List.mem_of_getElem? (i := 1066) (by decide +kernel))) rfl
theorem wY_J6_bitCount_0f7a4 : tkY yJ6_bitCount_0f7a4 cJ6_bitCount_0f7a4 1 (some .int) 1 := ⟨tk_tb (List.mem_append_right _ (List.mem_of_getElem? (i := 530) (by decide +kernel))) rfl, tk_tb (List.mem_append_right _ (List.mem_of_getElem? (i := 14) (by decide +kernel))) rfl, by decide +kernel, by decide +kernel, by decide +kernel⟩
theorem wI_J6_bitCount_0f7a4 : Cond.static yJ6_bitCount_0f7a4 ∈ tkTb := tk_tb (List.mem_append_right _ (List.mem_of_getElem? (i := 529) (by decide +kernel))) rfl
theorem wY_J9_min_7cf53 : tkY yJ9_min_7cf53 cJ9_min_7cf53 2 (some .int) 2 := ⟨tk_tb (List.mem_append_right _ (List.mem_of_getElem? (i := 283) (by decide +kernel))) rfl, tk_tb (List.mem_append_right _ (List.mem_of_getElem? (i := 13) (by decide +kernel))) rfl, by decide +kernel, by decide +kernel, by decide +kernel⟩
theorem wI_J9_min_7cf53 : Cond.static yJ9_min_7cf53 ∈ tkTb := tk_tb (List.mem_append_right _ (List.mem_of_getElem? (i := 282) (by decide +kernel))) rfl
theorem wY_J7_fill_53178 : tkY yJ7_fill_53178 cJ7_fill_53178 4 none 2 := ⟨tk_tb (List.mem_append_right _ (List.mem_of_getElem? (i := 159) (by decide +kernel))) rfl, tk_tb (List.mem_append_right _ (List.mem_of_getElem? (i := 7) (by decide +kernel))) rfl, by decide +kernel, by decide +kernel, by decide +kernel⟩
theorem wI_J7_fill_53178 : Cond.static yJ7_fill_53178 ∈ tkTb := tk_tb (List.mem_append_right _ (List.mem_of_getElem? (i := 158) (by decide +kernel))) rfl
