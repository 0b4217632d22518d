set_option maxRecDepth 100000 in
set_option maxHeartbeats 4000000 in
theorem oK_156 : ox_vW 156 = true := by decide +kernel
set_option maxRecDepth 100000 in
set_option maxHeartbeats 4000000 in
theorem oK_157 : ox_vW 157 = true := by decide +kernel
set_option maxRecDepth 100000 in
set_option maxHeartbeats 4000000 in
theorem oK_158 : ox_vW 158 = true := by decide +kernel
set_option maxRecDepth 100000 in
set_option maxHeartbeats 4000000 in
theorem oK_159 : ox_vW 159 = true := by decide +kernel
set_option maxRecDepth 100000 in
set_option maxHeartbeats 4000000 in
theorem oK_160 : ox_vW 160 = true := by decide +kernel
