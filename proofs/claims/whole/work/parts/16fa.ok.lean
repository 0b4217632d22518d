set_option maxRecDepth 100000 in
set_option maxHeartbeats 4000000 in
theorem oK_161 : ox_vW 161 = true := by decide +kernel
set_option maxRecDepth 100000 in
set_option maxHeartbeats 4000000 in
theorem oK_162 : ox_vW 162 = true := by decide +kernel
set_option maxRecDepth 100000 in
set_option maxHeartbeats 4000000 in
theorem oK_163 : ox_vW 163 = true := by decide +kernel
set_option maxRecDepth 100000 in
set_option maxHeartbeats 4000000 in
theorem oK_164 : ox_vW 164 = true := by decide +kernel
