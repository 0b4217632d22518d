set_option maxRecDepth 100000 in
set_option maxHeartbeats 4000000 in
theorem oK_169 : ox_vW 169 = true := by decide +kernel
set_option maxRecDepth 100000 in
set_option maxHeartbeats 4000000 in
theorem oK_170 : ox_vW 170 = true := by decide +kernel
set_option maxRecDepth 100000 in
set_option maxHeartbeats 4000000 in
theorem oK_171 : ox_vW 171 = true := by decide +kernel
theorem oL_5 : ∀ j ∈ [156, 157, 158, 159, 160, 161, 162, 163, 164, 165, 166, 167, 168, 169, 170, 171], ox_vW j = true := List.forall_mem_cons.mpr ⟨oK_156, List.forall_mem_cons.mpr ⟨oK_157, List.forall_mem_cons.mpr ⟨oK_158, List.forall_mem_cons.mpr ⟨oK_159, List.forall_mem_cons.mpr ⟨oK_160, List.forall_mem_cons.mpr ⟨oK_161, List.forall_mem_cons.mpr ⟨oK_162, List.forall_mem_cons.mpr ⟨oK_163, List.forall_mem_cons.mpr ⟨oK_164, List.forall_mem_cons.mpr ⟨oK_165, List.forall_mem_cons.mpr ⟨oK_166, List.forall_mem_cons.mpr ⟨oK_167, List.forall_mem_cons.mpr ⟨oK_168, List.forall_mem_cons.mpr ⟨oK_169, List.forall_mem_cons.mpr ⟨oK_170, List.forall_mem_cons.mpr ⟨oK_171, fun _ h => absurd h List.not_mem_nil⟩⟩⟩⟩⟩⟩⟩⟩⟩⟩⟩⟩⟩⟩⟩⟩
