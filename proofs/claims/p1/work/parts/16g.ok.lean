set_option maxRecDepth 100000 in
set_option maxHeartbeats 4000000 in
theorem oK_172 : ox_vW 172 = true := by decide +kernel
set_option maxRecDepth 100000 in
set_option maxHeartbeats 4000000 in
theorem oK_173 : ox_vW 173 = true := by decide +kernel
set_option maxRecDepth 100000 in
set_option maxHeartbeats 4000000 in
theorem oK_174 : ox_vW 174 = true := by decide +kernel
set_option maxRecDepth 100000 in
set_option maxHeartbeats 4000000 in
theorem oK_175 : ox_vW 175 = true := by decide +kernel
set_option maxRecDepth 100000 in
set_option maxHeartbeats 4000000 in
theorem oK_176 : ox_vW 176 = true := by decide +kernel
set_option maxRecDepth 100000 in
set_option maxHeartbeats 4000000 in
theorem oK_177 : ox_vW 177 = true := by decide +kernel
set_option maxRecDepth 100000 in
set_option maxHeartbeats 4000000 in
theorem oK_178 : ox_vW 178 = true := by decide +kernel
set_option maxRecDepth 100000 in
set_option maxHeartbeats 4000000 in
theorem oK_179 : ox_vW 179 = true := by decide +kernel
set_option maxRecDepth 100000 in
set_option maxHeartbeats 4000000 in
theorem oK_180 : ox_vW 180 = true := by decide +kernel
set_option maxRecDepth 100000 in
set_option maxHeartbeats 4000000 in
theorem oK_181 : ox_vW 181 = true := by decide +kernel
set_option maxRecDepth 100000 in
set_option maxHeartbeats 4000000 in
theorem oK_182 : ox_vW 182 = true := by decide +kernel
set_option maxRecDepth 100000 in
set_option maxHeartbeats 4000000 in
theorem oK_183 : ox_vW 183 = true := by decide +kernel
set_option maxRecDepth 100000 in
set_option maxHeartbeats 4000000 in
theorem oK_184 : ox_vW 184 = true := by decide +kernel
set_option maxRecDepth 100000 in
set_option maxHeartbeats 4000000 in
theorem oK_185 : ox_vW 185 = true := by decide +kernel
set_option maxRecDepth 100000 in
set_option maxHeartbeats 4000000 in
theorem oK_186 : ox_vW 186 = true := by decide +kernel
set_option maxRecDepth 100000 in
set_option maxHeartbeats 4000000 in
theorem oK_187 : ox_vW 187 = true := by decide +kernel
set_option maxRecDepth 100000 in
set_option maxHeartbeats 4000000 in
theorem oK_188 : ox_vW 188 = true := by decide +kernel
set_option maxRecDepth 100000 in
set_option maxHeartbeats 4000000 in
theorem oK_189 : ox_vW 189 = true := by decide +kernel
set_option maxRecDepth 100000 in
set_option maxHeartbeats 4000000 in
theorem oK_190 : ox_vW 190 = true := by decide +kernel
set_option maxRecDepth 100000 in
set_option maxHeartbeats 4000000 in
theorem oK_191 : ox_vW 191 = true := by decide +kernel
set_option maxRecDepth 100000 in
set_option maxHeartbeats 4000000 in
theorem oK_192 : ox_vW 192 = true := by decide +kernel
theorem oL_6 : ∀ j ∈ [172, 173, 174, 175, 176, 177, 178, 179, 180, 181, 182, 183, 184, 185, 186, 187, 188, 189, 190, 191, 192], ox_vW j = true := List.forall_mem_cons.mpr ⟨oK_172, List.forall_mem_cons.mpr ⟨oK_173, List.forall_mem_cons.mpr ⟨oK_174, List.forall_mem_cons.mpr ⟨oK_175, List.forall_mem_cons.mpr ⟨oK_176, List.forall_mem_cons.mpr ⟨oK_177, List.forall_mem_cons.mpr ⟨oK_178, List.forall_mem_cons.mpr ⟨oK_179, List.forall_mem_cons.mpr ⟨oK_180, List.forall_mem_cons.mpr ⟨oK_181, List.forall_mem_cons.mpr ⟨oK_182, List.forall_mem_cons.mpr ⟨oK_183, List.forall_mem_cons.mpr ⟨oK_184, List.forall_mem_cons.mpr ⟨oK_185, List.forall_mem_cons.mpr ⟨oK_186, List.forall_mem_cons.mpr ⟨oK_187, List.forall_mem_cons.mpr ⟨oK_188, List.forall_mem_cons.mpr ⟨oK_189, List.forall_mem_cons.mpr ⟨oK_190, List.forall_mem_cons.mpr ⟨oK_191, List.forall_mem_cons.mpr ⟨oK_192, fun _ h => absurd h List.not_mem_nil⟩⟩⟩⟩⟩⟩⟩⟩⟩⟩⟩⟩⟩⟩⟩⟩⟩⟩⟩⟩⟩
