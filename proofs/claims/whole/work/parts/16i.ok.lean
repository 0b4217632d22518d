set_option maxRecDepth 100000 in
set_option maxHeartbeats 4000000 in
theorem oK_219 : ox_vW 219 = true := by decide +kernel
set_option maxRecDepth 100000 in
set_option maxHeartbeats 4000000 in
theorem oK_220 : ox_vW 220 = true := by decide +kernel
set_option maxRecDepth 100000 in
set_option maxHeartbeats 4000000 in
theorem oK_221 : ox_vW 221 = true := by decide +kernel
set_option maxRecDepth 100000 in
set_option maxHeartbeats 4000000 in
theorem oK_222 : ox_vW 222 = true := by decide +kernel
set_option maxRecDepth 100000 in
set_option maxHeartbeats 4000000 in
theorem oK_223 : ox_vW 223 = true := by decide +kernel
set_option maxRecDepth 100000 in
set_option maxHeartbeats 4000000 in
theorem oK_224 : ox_vW 224 = true := by decide +kernel
set_option maxRecDepth 100000 in
set_option maxHeartbeats 4000000 in
theorem oK_225 : ox_vW 225 = true := by decide +kernel
set_option maxRecDepth 100000 in
set_option maxHeartbeats 4000000 in
theorem oK_226 : ox_vW 226 = true := by decide +kernel
set_option maxRecDepth 100000 in
set_option maxHeartbeats 4000000 in
theorem oK_227 : ox_vW 227 = true := by decide +kernel
set_option maxRecDepth 100000 in
set_option maxHeartbeats 4000000 in
theorem oK_228 : ox_vW 228 = true := by decide +kernel
set_option maxRecDepth 100000 in
set_option maxHeartbeats 4000000 in
theorem oK_229 : ox_vW 229 = true := by decide +kernel
set_option maxRecDepth 100000 in
set_option maxHeartbeats 4000000 in
theorem oK_230 : ox_vW 230 = true := by decide +kernel
set_option maxRecDepth 100000 in
set_option maxHeartbeats 4000000 in
theorem oK_231 : ox_vW 231 = true := by decide +kernel
set_option maxRecDepth 100000 in
set_option maxHeartbeats 4000000 in
theorem oK_232 : ox_vW 232 = true := by decide +kernel
set_option maxRecDepth 100000 in
set_option maxHeartbeats 4000000 in
theorem oK_233 : ox_vW 233 = true := by decide +kernel
set_option maxRecDepth 100000 in
set_option maxHeartbeats 4000000 in
theorem oK_234 : ox_vW 234 = true := by decide +kernel
set_option maxRecDepth 100000 in
set_option maxHeartbeats 4000000 in
theorem oK_235 : ox_vW 235 = true := by decide +kernel
theorem oL_8 : ∀ j ∈ [219, 220, 221, 222, 223, 224, 225, 226, 227, 228, 229, 230, 231, 232, 233, 234, 235], ox_vW j = true := List.forall_mem_cons.mpr ⟨oK_219, List.forall_mem_cons.mpr ⟨oK_220, List.forall_mem_cons.mpr ⟨oK_221, List.forall_mem_cons.mpr ⟨oK_222, List.forall_mem_cons.mpr ⟨oK_223, List.forall_mem_cons.mpr ⟨oK_224, List.forall_mem_cons.mpr ⟨oK_225, List.forall_mem_cons.mpr ⟨oK_226, List.forall_mem_cons.mpr ⟨oK_227, List.forall_mem_cons.mpr ⟨oK_228, List.forall_mem_cons.mpr ⟨oK_229, List.forall_mem_cons.mpr ⟨oK_230, List.forall_mem_cons.mpr ⟨oK_231, List.forall_mem_cons.mpr ⟨oK_232, List.forall_mem_cons.mpr ⟨oK_233, List.forall_mem_cons.mpr ⟨oK_234, List.forall_mem_cons.mpr ⟨oK_235, fun _ h => absurd h List.not_mem_nil⟩⟩⟩⟩⟩⟩⟩⟩⟩⟩⟩⟩⟩⟩⟩⟩⟩
