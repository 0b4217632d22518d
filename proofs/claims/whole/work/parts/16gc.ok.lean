set_option maxRecDepth 100000 in
set_option maxHeartbeats 4000000 in
theorem oK_188 : ox_vW 188 = true := by decide +kernel
set_option maxRecDepth 100000 in
set_option maxHeartbeats 4000000 in
theorem oK_189 : ox_vW 189 = true := by decide +kernel
set_option maxRecDepth 100000 in
set_option maxHeartbeats 4000000 in
theorem oK_190 : ox_vW 190 = true := by decide +kernel
set_option maxRecDepth 100000 in
set_option maxHeartbeats 4000000 in
theorem oK_191 : ox_vW 191 = true := by decide +kernel
set_option maxRecDepth 100000 in
set_option maxHeartbeats 4000000 in
theorem oK_192 : ox_vW 192 = true := by decide +kernel
theorem oL_6 : ∀ j ∈ [172, 173, 174, 175, 176, 177, 178, 179, 180, 181, 182, 183, 184, 185, 186, 187, 188, 189, 190, 191, 192], ox_vW j = true := List.forall_mem_cons.mpr ⟨oK_172, List.forall_mem_cons.mpr ⟨oK_173, List.forall_mem_cons.mpr ⟨oK_174, List.forall_mem_cons.mpr ⟨oK_175, List.forall_mem_cons.mpr ⟨oK_176, List.forall_mem_cons.mpr ⟨oK_177, List.forall_mem_cons.mpr ⟨oK_178, List.forall_mem_cons.mpr ⟨oK_179, List.forall_mem_cons.mpr ⟨oK_180, List.forall_mem_cons.mpr ⟨oK_181, List.forall_mem_cons.mpr ⟨oK_182, List.forall_mem_cons.mpr ⟨oK_183, List.forall_mem_cons.mpr ⟨oK_184, List.forall_mem_cons.mpr ⟨oK_185, List.forall_mem_cons.mpr ⟨oK_186, List.forall_mem_cons.mpr ⟨oK_187, List.forall_mem_cons.mpr ⟨oK_188, List.forall_mem_cons.mpr ⟨oK_189, List.forall_mem_cons.mpr ⟨oK_190, List.forall_mem_cons.mpr ⟨oK_191, List.forall_mem_cons.mpr ⟨oK_192, fun _ h => absurd h List.not_mem_nil⟩⟩⟩⟩⟩⟩⟩⟩⟩⟩⟩⟩⟩⟩⟩⟩⟩⟩⟩⟩⟩
