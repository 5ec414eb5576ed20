set_option maxRecDepth 20000 in
theorem exw_1_66 : exW RX10 66 68 1 := ⟨by decide +kernel, by decide +kernel, by decide +kernel⟩
set_option maxRecDepth 20000 in
theorem exw_4_195 : exW RX10 195 197 4 := ⟨by decide +kernel, by decide +kernel, by decide +kernel⟩
set_option maxRecDepth 20000 in
theorem exw_3_246 : exW RX10 246 248 3 := ⟨by decide +kernel, by decide +kernel, by decide +kernel⟩
set_option maxRecDepth 20000 in
theorem exw_2_283 : exW RX10 283 285 2 := ⟨by decide +kernel, by decide +kernel, by decide +kernel⟩
