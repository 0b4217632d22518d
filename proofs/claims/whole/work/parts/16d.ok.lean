set_option maxRecDepth 100000 in
set_option maxHeartbeats 4000000 in
theorem oK_106 : ox_vW 106 = true := by decide +kernel
set_option maxRecDepth 100000 in
set_option maxHeartbeats 4000000 in
theorem oK_107 : ox_vW 107 = true := by decide +kernel
set_option maxRecDepth 100000 in
set_option maxHeartbeats 4000000 in
theorem oK_108 : ox_vW 108 = true := by decide +kernel
set_option maxRecDepth 100000 in
set_option maxHeartbeats 4000000 in
theorem oK_109 : ox_vW 109 = true := by decide +kernel
set_option maxRecDepth 100000 in
set_option maxHeartbeats 4000000 in
theorem oK_110 : ox_vW 110 = true := by decide +kernel
set_option maxRecDepth 100000 in
set_option maxHeartbeats 4000000 in
theorem oK_111 : ox_vW 111 = true := by decide +kernel
set_option maxRecDepth 100000 in
set_option maxHeartbeats 4000000 in
theorem oK_112 : ox_vW 112 = true := by decide +kernel
set_option maxRecDepth 100000 in
set_option maxHeartbeats 4000000 in
theorem oK_113 : ox_vW 113 = true := by decide +kernel
set_option maxRecDepth 100000 in
set_option maxHeartbeats 4000000 in
theorem oK_114 : ox_vW 114 = true := by decide +kernel
set_option maxRecDepth 100000 in
set_option maxHeartbeats 4000000 in
theorem oK_115 : ox_vW 115 = true := by decide +kernel
set_option maxRecDepth 100000 in
set_option maxHeartbeats 4000000 in
theorem oK_116 : ox_vW 116 = true := by decide +kernel
set_option maxRecDepth 100000 in
set_option maxHeartbeats 4000000 in
theorem oK_117 : ox_vW 117 = true := by decide +kernel
set_option maxRecDepth 100000 in
set_option maxHeartbeats 4000000 in
theorem oK_118 : ox_vW 118 = true := by decide +kernel
set_option maxRecDepth 100000 in
set_option maxHeartbeats 4000000 in
theorem oK_119 : ox_vW 119 = true := by decide +kernel
set_option maxRecDepth 100000 in
set_option maxHeartbeats 4000000 in
theorem oK_120 : ox_vW 120 = true := by decide +kernel
set_option maxRecDepth 100000 in
set_option maxHeartbeats 4000000 in
theorem oK_121 : ox_vW 121 = true := by decide +kernel
set_option maxRecDepth 100000 in
set_option maxHeartbeats 4000000 in
theorem oK_122 : ox_vW 122 = true := by decide +kernel
set_option maxRecDepth 100000 in
set_option maxHeartbeats 4000000 in
theorem oK_123 : ox_vW 123 = true := by decide +kernel
set_option maxRecDepth 100000 in
set_option maxHeartbeats 4000000 in
theorem oK_124 : ox_vW 124 = true := by decide +kernel
set_option maxRecDepth 100000 in
set_option maxHeartbeats 4000000 in
theorem oK_125 : ox_vW 125 = true := by decide +kernel
set_option maxRecDepth 100000 in
set_option maxHeartbeats 4000000 in
theorem oK_126 : ox_vW 126 = true := by decide +kernel
set_option maxRecDepth 100000 in
set_option maxHeartbeats 4000000 in
theorem oK_127 : ox_vW 127 = true := by decide +kernel
set_option maxRecDepth 100000 in
set_option maxHeartbeats 4000000 in
theorem oK_128 : ox_vW 128 = true := by decide +kernel
set_option maxRecDepth 100000 in
set_option maxHeartbeats 4000000 in
theorem oK_129 : ox_vW 129 = true := by decide +kernel
set_option maxRecDepth 100000 in
set_option maxHeartbeats 4000000 in
theorem oK_130 : ox_vW 130 = true := by decide +kernel
set_option maxRecDepth 100000 in
set_option maxHeartbeats 4000000 in
theorem oK_131 : ox_vW 131 = true := by decide +kernel
set_option maxRecDepth 100000 in
set_option maxHeartbeats 4000000 in
theorem oK_132 : ox_vW 132 = true := by decide +kernel
set_option maxRecDepth 100000 in
set_option maxHeartbeats 4000000 in
theorem oK_133 : ox_vW 133 = true := by decide +kernel
set_option maxRecDepth 100000 in
set_option maxHeartbeats 4000000 in
theorem oK_134 : ox_vW 134 = true := by decide +kernel
theorem oL_3 : ∀ j ∈ [106, 107, 108, 109, 110, 111, 112, 113, 114, 115, 116, 117, 118, 119, 120, 121, 122, 123, 124, 125, 126, 127, 128, 129, 130, 131, 132, 133, 134], ox_vW j = true := List.forall_mem_cons.mpr ⟨oK_106, List.forall_mem_cons.mpr ⟨oK_107, List.forall_mem_cons.mpr ⟨oK_108, List.forall_mem_cons.mpr ⟨oK_109, List.forall_mem_cons.mpr ⟨oK_110, List.forall_mem_cons.mpr ⟨oK_111, List.forall_mem_cons.mpr ⟨oK_112, List.forall_mem_cons.mpr ⟨oK_113, List.forall_mem_cons.mpr ⟨oK_114, List.forall_mem_cons.mpr ⟨oK_115, List.forall_mem_cons.mpr ⟨oK_116, List.forall_mem_cons.mpr ⟨oK_117, List.forall_mem_cons.mpr ⟨oK_118, List.forall_mem_cons.mpr ⟨oK_119, List.forall_mem_cons.mpr ⟨oK_120, List.forall_mem_cons.mpr ⟨oK_121, List.forall_mem_cons.mpr ⟨oK_122, List.forall_mem_cons.mpr ⟨oK_123, List.forall_mem_cons.mpr ⟨oK_124, List.forall_mem_cons.mpr ⟨oK_125, List.forall_mem_cons.mpr ⟨oK_126, List.forall_mem_cons.mpr ⟨oK_127, List.forall_mem_cons.mpr ⟨oK_128, List.forall_mem_cons.mpr ⟨oK_129, List.forall_mem_cons.mpr ⟨oK_130, List.forall_mem_cons.mpr ⟨oK_131, List.forall_mem_cons.mpr ⟨oK_132, List.forall_mem_cons.mpr ⟨oK_133, List.forall_mem_cons.mpr ⟨oK_134, fun _ h => absurd h List.not_mem_nil⟩⟩⟩⟩⟩⟩⟩⟩⟩⟩⟩⟩⟩⟩⟩⟩⟩⟩⟩⟩⟩⟩⟩⟩⟩⟩⟩⟩⟩
