set_option maxRecDepth 100000 in
set_option maxHeartbeats 4000000 in
theorem oK_61 : ox_vW 61 = true := by decide +kernel
set_option maxRecDepth 100000 in
set_option maxHeartbeats 4000000 in
theorem oK_62 : ox_vW 62 = true := by decide +kernel
set_option maxRecDepth 100000 in
set_option maxHeartbeats 4000000 in
theorem oK_63 : ox_vW 63 = true := by decide +kernel
set_option maxRecDepth 100000 in
set_option maxHeartbeats 4000000 in
theorem oK_64 : ox_vW 64 = true := by decide +kernel
set_option maxRecDepth 100000 in
set_option maxHeartbeats 4000000 in
theorem oK_65 : ox_vW 65 = true := by decide +kernel
set_option maxRecDepth 100000 in
set_option maxHeartbeats 4000000 in
theorem oK_66 : ox_vW 66 = true := by decide +kernel
set_option maxRecDepth 100000 in
set_option maxHeartbeats 4000000 in
theorem oK_67 : ox_vW 67 = true := by decide +kernel
set_option maxRecDepth 100000 in
set_option maxHeartbeats 4000000 in
theorem oK_68 : ox_vW 68 = true := by decide +kernel
set_option maxRecDepth 100000 in
set_option maxHeartbeats 4000000 in
theorem oK_69 : ox_vW 69 = true := by decide +kernel
set_option maxRecDepth 100000 in
set_option maxHeartbeats 4000000 in
theorem oK_70 : ox_vW 70 = true := by decide +kernel
set_option maxRecDepth 100000 in
set_option maxHeartbeats 4000000 in
theorem oK_71 : ox_vW 71 = true := by decide +kernel
set_option maxRecDepth 100000 in
set_option maxHeartbeats 4000000 in
theorem oK_72 : ox_vW 72 = true := by decide +kernel
set_option maxRecDepth 100000 in
set_option maxHeartbeats 4000000 in
theorem oK_73 : ox_vW 73 = true := by decide +kernel
set_option maxRecDepth 100000 in
set_option maxHeartbeats 4000000 in
theorem oK_74 : ox_vW 74 = true := by decide +kernel
set_option maxRecDepth 100000 in
set_option maxHeartbeats 4000000 in
theorem oK_75 : ox_vW 75 = true := by decide +kernel
set_option maxRecDepth 100000 in
set_option maxHeartbeats 4000000 in
theorem oK_76 : ox_vW 76 = true := by decide +kernel
set_option maxRecDepth 100000 in
set_option maxHeartbeats 4000000 in
theorem oK_77 : ox_vW 77 = true := by decide +kernel
set_option maxRecDepth 100000 in
set_option maxHeartbeats 4000000 in
theorem oK_78 : ox_vW 78 = true := by decide +kernel
set_option maxRecDepth 100000 in
set_option maxHeartbeats 4000000 in
theorem oK_79 : ox_vW 79 = true := by decide +kernel
set_option maxRecDepth 100000 in
set_option maxHeartbeats 4000000 in
theorem oK_80 : ox_vW 80 = true := by decide +kernel
set_option maxRecDepth 100000 in
set_option maxHeartbeats 4000000 in
theorem oK_81 : ox_vW 81 = true := by decide +kernel
set_option maxRecDepth 100000 in
set_option maxHeartbeats 4000000 in
theorem oK_82 : ox_vW 82 = true := by decide +kernel
set_option maxRecDepth 100000 in
set_option maxHeartbeats 4000000 in
theorem oK_83 : ox_vW 83 = true := by decide +kernel
set_option maxRecDepth 100000 in
set_option maxHeartbeats 4000000 in
theorem oK_84 : ox_vW 84 = true := by decide +kernel
set_option maxRecDepth 100000 in
set_option maxHeartbeats 4000000 in
theorem oK_85 : ox_vW 85 = true := by decide +kernel
set_option maxRecDepth 100000 in
set_option maxHeartbeats 4000000 in
theorem oK_86 : ox_vW 86 = true := by decide +kernel
set_option maxRecDepth 100000 in
set_option maxHeartbeats 4000000 in
theorem oK_87 : ox_vW 87 = true := by decide +kernel
set_option maxRecDepth 100000 in
set_option maxHeartbeats 4000000 in
theorem oK_88 : ox_vW 88 = true := by decide +kernel
set_option maxRecDepth 100000 in
set_option maxHeartbeats 4000000 in
theorem oK_89 : ox_vW 89 = true := by decide +kernel
set_option maxRecDepth 100000 in
set_option maxHeartbeats 4000000 in
theorem oK_90 : ox_vW 90 = true := by decide +kernel
set_option maxRecDepth 100000 in
set_option maxHeartbeats 4000000 in
theorem oK_91 : ox_vW 91 = true := by decide +kernel
set_option maxRecDepth 100000 in
set_option maxHeartbeats 4000000 in
theorem oK_92 : ox_vW 92 = true := by decide +kernel
set_option maxRecDepth 100000 in
set_option maxHeartbeats 4000000 in
theorem oK_93 : ox_vW 93 = true := by decide +kernel
set_option maxRecDepth 100000 in
set_option maxHeartbeats 4000000 in
theorem oK_94 : ox_vW 94 = true := by decide +kernel
set_option maxRecDepth 100000 in
set_option maxHeartbeats 4000000 in
theorem oK_95 : ox_vW 95 = true := by decide +kernel
set_option maxRecDepth 100000 in
set_option maxHeartbeats 4000000 in
theorem oK_96 : ox_vW 96 = true := by decide +kernel
set_option maxRecDepth 100000 in
set_option maxHeartbeats 4000000 in
theorem oK_97 : ox_vW 97 = true := by decide +kernel
set_option maxRecDepth 100000 in
set_option maxHeartbeats 4000000 in
theorem oK_98 : ox_vW 98 = true := by decide +kernel
set_option maxRecDepth 100000 in
set_option maxHeartbeats 4000000 in
theorem oK_99 : ox_vW 99 = true := by decide +kernel
set_option maxRecDepth 100000 in
set_option maxHeartbeats 4000000 in
theorem oK_100 : ox_vW 100 = true := by decide +kernel
set_option maxRecDepth 100000 in
set_option maxHeartbeats 4000000 in
theorem oK_101 : ox_vW 101 = true := by decide +kernel
set_option maxRecDepth 100000 in
set_option maxHeartbeats 4000000 in
theorem oK_102 : ox_vW 102 = true := by decide +kernel
set_option maxRecDepth 100000 in
set_option maxHeartbeats 4000000 in
theorem oK_103 : ox_vW 103 = true := by decide +kernel
set_option maxRecDepth 100000 in
set_option maxHeartbeats 4000000 in
theorem oK_104 : ox_vW 104 = true := by decide +kernel
set_option maxRecDepth 100000 in
set_option maxHeartbeats 4000000 in
theorem oK_105 : ox_vW 105 = true := by decide +kernel
theorem oL_2 : ∀ j ∈ [61, 62, 63, 64, 65, 66, 67, 68, 69, 70, 71, 72, 73, 74, 75, 76, 77, 78, 79, 80, 81, 82, 83, 84, 85, 86, 87, 88, 89, 90, 91, 92, 93, 94, 95, 96, 97, 98, 99, 100, 101, 102, 103, 104, 105], ox_vW j = true := List.forall_mem_cons.mpr ⟨oK_61, List.forall_mem_cons.mpr ⟨oK_62, List.forall_mem_cons.mpr ⟨oK_63, List.forall_mem_cons.mpr ⟨oK_64, List.forall_mem_cons.mpr ⟨oK_65, List.forall_mem_cons.mpr ⟨oK_66, List.forall_mem_cons.mpr ⟨oK_67, List.forall_mem_cons.mpr ⟨oK_68, List.forall_mem_cons.mpr ⟨oK_69, List.forall_mem_cons.mpr ⟨oK_70, List.forall_mem_cons.mpr ⟨oK_71, List.forall_mem_cons.mpr ⟨oK_72, List.forall_mem_cons.mpr ⟨oK_73, List.forall_mem_cons.mpr ⟨oK_74, List.forall_mem_cons.mpr ⟨oK_75, List.forall_mem_cons.mpr ⟨oK_76, List.forall_mem_cons.mpr ⟨oK_77, List.forall_mem_cons.mpr ⟨oK_78, List.forall_mem_cons.mpr ⟨oK_79, List.forall_mem_cons.mpr ⟨oK_80, List.forall_mem_cons.mpr ⟨oK_81, List.forall_mem_cons.mpr ⟨oK_82, List.forall_mem_cons.mpr ⟨oK_83, List.forall_mem_cons.mpr ⟨oK_84, List.forall_mem_cons.mpr ⟨oK_85, List.forall_mem_cons.mpr ⟨oK_86, List.forall_mem_cons.mpr ⟨oK_87, List.forall_mem_cons.mpr ⟨oK_88, List.forall_mem_cons.mpr ⟨oK_89, List.forall_mem_cons.mpr ⟨oK_90, List.forall_mem_cons.mpr ⟨oK_91, List.forall_mem_cons.mpr ⟨oK_92, List.forall_mem_cons.mpr ⟨oK_93, List.forall_mem_cons.mpr ⟨oK_94, List.forall_mem_cons.mpr ⟨oK_95, List.forall_mem_cons.mpr ⟨oK_96, List.forall_mem_cons.mpr ⟨oK_97, List.forall_mem_cons.mpr ⟨oK_98, List.forall_mem_cons.mpr ⟨oK_99, List.forall_mem_cons.mpr ⟨oK_100, List.forall_mem_cons.mpr ⟨oK_101, List.forall_mem_cons.mpr ⟨oK_102, List.forall_mem_cons.mpr ⟨oK_103, List.forall_mem_cons.mpr ⟨oK_104, List.forall_mem_cons.mpr ⟨oK_105, fun _ h => absurd h List.not_mem_nil⟩⟩⟩⟩⟩⟩⟩⟩⟩⟩⟩⟩⟩⟩⟩⟩⟩⟩⟩⟩⟩⟩⟩⟩⟩⟩⟩⟩⟩⟩⟩⟩⟩⟩⟩⟩⟩⟩⟩⟩⟩⟩⟩⟩⟩
