set_option maxRecDepth 100000 in
set_option maxHeartbeats 4000000 in
theorem oK_204 : ox_vW 204 = true := by decide +kernel
set_option maxRecDepth 100000 in
set_option maxHeartbeats 4000000 in
theorem oK_205 : ox_vW 205 = true := by decide +kernel
set_option maxRecDepth 100000 in
set_option maxHeartbeats 4000000 in
theorem oK_206 : ox_vW 206 = true := by decide +kernel
set_option maxRecDepth 100000 in
set_option maxHeartbeats 4000000 in
theorem oK_207 : ox_vW 207 = true := by decide +kernel
set_option maxRecDepth 100000 in
set_option maxHeartbeats 4000000 in
theorem oK_208 : ox_vW 208 = true := by decide +kernel
set_option maxRecDepth 100000 in
set_option maxHeartbeats 4000000 in
theorem oK_209 : ox_vW 209 = true := by decide +kernel
set_option maxRecDepth 100000 in
set_option maxHeartbeats 4000000 in
theorem oK_210 : ox_vW 210 = true := by decide +kernel
set_option maxRecDepth 100000 in
set_option maxHeartbeats 4000000 in
theorem oK_211 : ox_vW 211 = true := by decide +kernel
set_option maxRecDepth 100000 in
set_option maxHeartbeats 4000000 in
theorem oK_212 : ox_vW 212 = true := by decide +kernel
set_option maxRecDepth 100000 in
set_option maxHeartbeats 4000000 in
theorem oK_217 : ox_vW 217 = true := by decide +kernel
set_option maxRecDepth 100000 in
set_option maxHeartbeats 4000000 in
theorem oK_218 : ox_vW 218 = true := by decide +kernel
theorem oL_7 : ∀ j ∈ [193, 194, 195, 196, 197, 198, 199, 200, 201, 202, 203, 204, 205, 206, 207, 208, 209, 210, 211, 212, 217, 218], ox_vW j = true := List.forall_mem_cons.mpr ⟨oK_193, List.forall_mem_cons.mpr ⟨oK_194, List.forall_mem_cons.mpr ⟨oK_195, List.forall_mem_cons.mpr ⟨oK_196, List.forall_mem_cons.mpr ⟨oK_197, List.forall_mem_cons.mpr ⟨oK_198, List.forall_mem_cons.mpr ⟨oK_199, List.forall_mem_cons.mpr ⟨oK_200, List.forall_mem_cons.mpr ⟨oK_201, List.forall_mem_cons.mpr ⟨oK_202, List.forall_mem_cons.mpr ⟨oK_203, List.forall_mem_cons.mpr ⟨oK_204, List.forall_mem_cons.mpr ⟨oK_205, List.forall_mem_cons.mpr ⟨oK_206, List.forall_mem_cons.mpr ⟨oK_207, List.forall_mem_cons.mpr ⟨oK_208, List.forall_mem_cons.mpr ⟨oK_209, List.forall_mem_cons.mpr ⟨oK_210, List.forall_mem_cons.mpr ⟨oK_211, List.forall_mem_cons.mpr ⟨oK_212, List.forall_mem_cons.mpr ⟨oK_217, List.forall_mem_cons.mpr ⟨oK_218, fun _ h => absurd h List.not_mem_nil⟩⟩⟩⟩⟩⟩⟩⟩⟩⟩⟩⟩⟩⟩⟩⟩⟩⟩⟩⟩⟩⟩
