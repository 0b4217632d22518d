set_option maxRecDepth 100000 in
set_option maxHeartbeats 4000000 in
theorem oK_183 : ox_vW 183 = true := by decide +kernel
set_option maxRecDepth 100000 in
set_option maxHeartbeats 4000000 in
theorem oK_184 : ox_vW 184 = true := by decide +kernel
set_option maxRecDepth 100000 in
set_option maxHeartbeats 4000000 in
theorem oK_185 : ox_vW 185 = true := by decide +kernel
set_option maxRecDepth 100000 in
set_option maxHeartbeats 4000000 in
theorem oK_186 : ox_vW 186 = true := by decide +kernel
set_option maxRecDepth 100000 in
set_option maxHeartbeats 4000000 in
theorem oK_187 : ox_vW 187 = true := by decide +kernel
