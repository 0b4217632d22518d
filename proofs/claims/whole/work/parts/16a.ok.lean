set_option maxRecDepth 100000 in
set_option maxHeartbeats 4000000 in
theorem oK_0 : ox_vW 0 = true := by decide +kernel
set_option maxRecDepth 100000 in
set_option maxHeartbeats 4000000 in
theorem oK_1 : ox_vW 1 = true := by decide +kernel
set_option maxRecDepth 100000 in
set_option maxHeartbeats 4000000 in
theorem oK_2 : ox_vW 2 = true := by decide +kernel
set_option maxRecDepth 100000 in
set_option maxHeartbeats 4000000 in
theorem oK_3 : ox_vW 3 = true := by decide +kernel
set_option maxRecDepth 100000 in
set_option maxHeartbeats 4000000 in
theorem oK_4 : ox_vW 4 = true := by decide +kernel
set_option maxRecDepth 100000 in
set_option maxHeartbeats 4000000 in
theorem oK_5 : ox_vW 5 = true := by decide +kernel
set_option maxRecDepth 100000 in
set_option maxHeartbeats 4000000 in
theorem oK_6 : ox_vW 6 = true := by decide +kernel
set_option maxRecDepth 100000 in
set_option maxHeartbeats 4000000 in
theorem oK_7 : ox_vW 7 = true := by decide +kernel
set_option maxRecDepth 100000 in
set_option maxHeartbeats 4000000 in
theorem oK_8 : ox_vW 8 = true := by decide +kernel
set_option maxRecDepth 100000 in
set_option maxHeartbeats 4000000 in
theorem oK_9 : ox_vW 9 = true := by decide +kernel
set_option maxRecDepth 100000 in
set_option maxHeartbeats 4000000 in
theorem oK_10 : ox_vW 10 = true := by decide +kernel
set_option maxRecDepth 100000 in
set_option maxHeartbeats 4000000 in
theorem oK_11 : ox_vW 11 = true := by decide +kernel
set_option maxRecDepth 100000 in
set_option maxHeartbeats 4000000 in
theorem oK_12 : ox_vW 12 = true := by decide +kernel
set_option maxRecDepth 100000 in
set_option maxHeartbeats 4000000 in
theorem oK_13 : ox_vW 13 = true := by decide +kernel
set_option maxRecDepth 100000 in
set_option maxHeartbeats 4000000 in
theorem oK_14 : ox_vW 14 = true := by decide +kernel
set_option maxRecDepth 100000 in
set_option maxHeartbeats 4000000 in
theorem oK_15 : ox_vW 15 = true := by decide +kernel
set_option maxRecDepth 100000 in
set_option maxHeartbeats 4000000 in
theorem oK_16 : ox_vW 16 = true := by decide +kernel
set_option maxRecDepth 100000 in
set_option maxHeartbeats 4000000 in
theorem oK_17 : ox_vW 17 = true := by decide +kernel
set_option maxRecDepth 100000 in
set_option maxHeartbeats 4000000 in
theorem oK_18 : ox_vW 18 = true := by decide +kernel
set_option maxRecDepth 100000 in
set_option maxHeartbeats 4000000 in
theorem oK_19 : ox_vW 19 = true := by decide +kernel
set_option maxRecDepth 100000 in
set_option maxHeartbeats 4000000 in
theorem oK_20 : ox_vW 20 = true := by decide +kernel
set_option maxRecDepth 100000 in
set_option maxHeartbeats 4000000 in
theorem oK_21 : ox_vW 21 = true := by decide +kernel
set_option maxRecDepth 100000 in
set_option maxHeartbeats 4000000 in
theorem oK_22 : ox_vW 22 = true := by decide +kernel
set_option maxRecDepth 100000 in
set_option maxHeartbeats 4000000 in
theorem oK_23 : ox_vW 23 = true := by decide +kernel
set_option maxRecDepth 100000 in
set_option maxHeartbeats 4000000 in
theorem oK_24 : ox_vW 24 = true := by decide +kernel
set_option maxRecDepth 100000 in
set_option maxHeartbeats 4000000 in
theorem oK_25 : ox_vW 25 = true := by decide +kernel
set_option maxRecDepth 100000 in
set_option maxHeartbeats 4000000 in
theorem oK_26 : ox_vW 26 = true := by decide +kernel
set_option maxRecDepth 100000 in
set_option maxHeartbeats 4000000 in
theorem oK_27 : ox_vW 27 = true := by decide +kernel
set_option maxRecDepth 100000 in
set_option maxHeartbeats 4000000 in
theorem oK_28 : ox_vW 28 = true := by decide +kernel
set_option maxRecDepth 100000 in
set_option maxHeartbeats 4000000 in
theorem oK_29 : ox_vW 29 = true := by decide +kernel
set_option maxRecDepth 100000 in
set_option maxHeartbeats 4000000 in
theorem oK_30 : ox_vW 30 = true := by decide +kernel
set_option maxRecDepth 100000 in
set_option maxHeartbeats 4000000 in
theorem oK_31 : ox_vW 31 = true := by decide +kernel
set_option maxRecDepth 100000 in
set_option maxHeartbeats 4000000 in
theorem oK_32 : ox_vW 32 = true := by decide +kernel
theorem oL_0 : ∀ j ∈ [0, 1, 2, 3, 4, 5, 6, 7, 8, 9, 10, 11, 12, 13, 14, 15, 16, 17, 18, 19, 20, 21, 22, 23, 24, 25, 26, 27, 28, 29, 30, 31, 32], ox_vW j = true := List.forall_mem_cons.mpr ⟨oK_0, List.forall_mem_cons.mpr ⟨oK_1, List.forall_mem_cons.mpr ⟨oK_2, List.forall_mem_cons.mpr ⟨oK_3, List.forall_mem_cons.mpr ⟨oK_4, List.forall_mem_cons.mpr ⟨oK_5, List.forall_mem_cons.mpr ⟨oK_6, List.forall_mem_cons.mpr ⟨oK_7, List.forall_mem_cons.mpr ⟨oK_8, List.forall_mem_cons.mpr ⟨oK_9, List.forall_mem_cons.mpr ⟨oK_10, List.forall_mem_cons.mpr ⟨oK_11, List.forall_mem_cons.mpr ⟨oK_12, List.forall_mem_cons.mpr ⟨oK_13, List.forall_mem_cons.mpr ⟨oK_14, List.forall_mem_cons.mpr ⟨oK_15, List.forall_mem_cons.mpr ⟨oK_16, List.forall_mem_cons.mpr ⟨oK_17, List.forall_mem_cons.mpr ⟨oK_18, List.forall_mem_cons.mpr ⟨oK_19, List.forall_mem_cons.mpr ⟨oK_20, List.forall_mem_cons.mpr ⟨oK_21, List.forall_mem_cons.mpr ⟨oK_22, List.forall_mem_cons.mpr ⟨oK_23, List.forall_mem_cons.mpr ⟨oK_24, List.forall_mem_cons.mpr ⟨oK_25, List.forall_mem_cons.mpr ⟨oK_26, List.forall_mem_cons.mpr ⟨oK_27, List.forall_mem_cons.mpr ⟨oK_28, List.forall_mem_cons.mpr ⟨oK_29, List.forall_mem_cons.mpr ⟨oK_30, List.forall_mem_cons.mpr ⟨oK_31, List.forall_mem_cons.mpr ⟨oK_32, fun _ h => absurd h List.not_mem_nil⟩⟩⟩⟩⟩⟩⟩⟩⟩⟩⟩⟩⟩⟩⟩⟩⟩⟩⟩⟩⟩⟩⟩⟩⟩⟩⟩⟩⟩⟩⟩⟩⟩
