set_option maxRecDepth 100000 in
set_option maxHeartbeats 4000000 in
theorem oK_135 : ox_vW 135 = true := by decide +kernel
set_option maxRecDepth 100000 in
set_option maxHeartbeats 4000000 in
theorem oK_136 : ox_vW 136 = true := by decide +kernel
set_option maxRecDepth 100000 in
set_option maxHeartbeats 4000000 in
theorem oK_137 : ox_vW 137 = true := by decide +kernel
set_option maxRecDepth 100000 in
set_option maxHeartbeats 4000000 in
theorem oK_138 : ox_vW 138 = true := by decide +kernel
set_option maxRecDepth 100000 in
set_option maxHeartbeats 4000000 in
theorem oK_139 : ox_vW 139 = true := by decide +kernel
set_option maxRecDepth 100000 in
set_option maxHeartbeats 4000000 in
theorem oK_140 : ox_vW 140 = true := by decide +kernel
set_option maxRecDepth 100000 in
set_option maxHeartbeats 4000000 in
theorem oK_141 : ox_vW 141 = true := by decide +kernel
set_option maxRecDepth 100000 in
set_option maxHeartbeats 4000000 in
theorem oK_142 : ox_vW 142 = true := by decide +kernel
set_option maxRecDepth 100000 in
set_option maxHeartbeats 4000000 in
theorem oK_143 : ox_vW 143 = true := by decide +kernel
set_option maxRecDepth 100000 in
set_option maxHeartbeats 4000000 in
theorem oK_144 : ox_vW 144 = true := by decide +kernel
set_option maxRecDepth 100000 in
set_option maxHeartbeats 4000000 in
theorem oK_145 : ox_vW 145 = true := by decide +kernel
set_option maxRecDepth 100000 in
set_option maxHeartbeats 4000000 in
theorem oK_146 : ox_vW 146 = true := by decide +kernel
set_option maxRecDepth 100000 in
set_option maxHeartbeats 4000000 in
theorem oK_147 : ox_vW 147 = true := by decide +kernel
set_option maxRecDepth 100000 in
set_option maxHeartbeats 4000000 in
theorem oK_148 : ox_vW 148 = true := by decide +kernel
set_option maxRecDepth 100000 in
set_option maxHeartbeats 4000000 in
theorem oK_149 : ox_vW 149 = true := by decide +kernel
set_option maxRecDepth 100000 in
set_option maxHeartbeats 4000000 in
theorem oK_150 : ox_vW 150 = true := by decide +kernel
set_option maxRecDepth 100000 in
set_option maxHeartbeats 4000000 in
theorem oK_151 : ox_vW 151 = true := by decide +kernel
set_option maxRecDepth 100000 in
set_option maxHeartbeats 4000000 in
theorem oK_152 : ox_vW 152 = true := by decide +kernel
set_option maxRecDepth 100000 in
set_option maxHeartbeats 4000000 in
theorem oK_153 : ox_vW 153 = true := by decide +kernel
set_option maxRecDepth 100000 in
set_option maxHeartbeats 4000000 in
theorem oK_154 : ox_vW 154 = true := by decide +kernel
set_option maxRecDepth 100000 in
set_option maxHeartbeats 4000000 in
theorem oK_155 : ox_vW 155 = true := by decide +kernel
theorem oL_4 : ∀ j ∈ [135, 136, 137, 138, 139, 140, 141, 142, 143, 144, 145, 146, 147, 148, 149, 150, 151, 152, 153, 154, 155], ox_vW j = true := List.forall_mem_cons.mpr ⟨oK_135, List.forall_mem_cons.mpr ⟨oK_136, List.forall_mem_cons.mpr ⟨oK_137, List.forall_mem_cons.mpr ⟨oK_138, List.forall_mem_cons.mpr ⟨oK_139, List.forall_mem_cons.mpr ⟨oK_140, List.forall_mem_cons.mpr ⟨oK_141, List.forall_mem_cons.mpr ⟨oK_142, List.forall_mem_cons.mpr ⟨oK_143, List.forall_mem_cons.mpr ⟨oK_144, List.forall_mem_cons.mpr ⟨oK_145, List.forall_mem_cons.mpr ⟨oK_146, List.forall_mem_cons.mpr ⟨oK_147, List.forall_mem_cons.mpr ⟨oK_148, List.forall_mem_cons.mpr ⟨oK_149, List.forall_mem_cons.mpr ⟨oK_150, List.forall_mem_cons.mpr ⟨oK_151, List.forall_mem_cons.mpr ⟨oK_152, List.forall_mem_cons.mpr ⟨oK_153, List.forall_mem_cons.mpr ⟨oK_154, List.forall_mem_cons.mpr ⟨oK_155, fun _ h => absurd h List.not_mem_nil⟩⟩⟩⟩⟩⟩⟩⟩⟩⟩⟩⟩⟩⟩⟩⟩⟩⟩⟩⟩⟩
