set_option maxRecDepth 100000 in
set_option maxHeartbeats 4000000 in
theorem oK_166 : ox_vW 166 = true := by decide +kernel
set_option maxRecDepth 100000 in
set_option maxHeartbeats 4000000 in
theorem oK_167 : ox_vW 167 = true := by decide +kernel
