set_option maxRecDepth 100000 in
set_option maxHeartbeats 4000000 in
theorem oK_48 : ox_vW 48 = true := by decide +kernel
set_option maxRecDepth 100000 in
set_option maxHeartbeats 4000000 in
theorem oK_49 : ox_vW 49 = true := by decide +kernel
set_option maxRecDepth 100000 in
set_option maxHeartbeats 4000000 in
theorem oK_50 : ox_vW 50 = true := by decide +kernel
set_option maxRecDepth 100000 in
set_option maxHeartbeats 4000000 in
theorem oK_51 : ox_vW 51 = true := by decide +kernel
set_option maxRecDepth 100000 in
set_option maxHeartbeats 4000000 in
theorem oK_52 : ox_vW 52 = true := by decide +kernel
set_option maxRecDepth 100000 in
set_option maxHeartbeats 4000000 in
theorem oK_53 : ox_vW 53 = true := by decide +kernel
set_option maxRecDepth 100000 in
set_option maxHeartbeats 4000000 in
theorem oK_54 : ox_vW 54 = true := by decide +kernel
set_option maxRecDepth 100000 in
set_option maxHeartbeats 4000000 in
theorem oK_55 : ox_vW 55 = true := by decide +kernel
set_option maxRecDepth 100000 in
set_option maxHeartbeats 4000000 in
theorem oK_56 : ox_vW 56 = true := by decide +kernel
set_option maxRecDepth 100000 in
set_option maxHeartbeats 4000000 in
theorem oK_57 : ox_vW 57 = true := by decide +kernel
set_option maxRecDepth 100000 in
set_option maxHeartbeats 4000000 in
theorem oA_58 : ox_jok 58 = true := by decide +kernel
set_option maxRecDepth 100000 in
set_option maxHeartbeats 4000000 in
theorem oB_58_0 : (((ox_mc 58).drop 0).take 24).all (ox_vL (ox_mi 58).1.cls (decide ((ox_mi 58).1.name = "<init>")) (ox_mi 58).2.2.1 (ox_mi 58).2.1) = true := by decide +kernel
set_option maxRecDepth 100000 in
set_option maxHeartbeats 4000000 in
theorem oB_58_1 : (((ox_mc 58).drop 24).take 24).all (ox_vL (ox_mi 58).1.cls (decide ((ox_mi 58).1.name = "<init>")) (ox_mi 58).2.2.1 (ox_mi 58).2.1) = true := by decide +kernel
set_option maxRecDepth 100000 in
set_option maxHeartbeats 4000000 in
theorem oB_58_2 : (((ox_mc 58).drop 48).take 24).all (ox_vL (ox_mi 58).1.cls (decide ((ox_mi 58).1.name = "<init>")) (ox_mi 58).2.2.1 (ox_mi 58).2.1) = true := by decide +kernel
set_option maxRecDepth 100000 in
set_option maxHeartbeats 4000000 in
theorem oB_58_3 : (((ox_mc 58).drop 72).take 24).all (ox_vL (ox_mi 58).1.cls (decide ((ox_mi 58).1.name = "<init>")) (ox_mi 58).2.2.1 (ox_mi 58).2.1) = true := by decide +kernel
set_option maxRecDepth 100000 in
set_option maxHeartbeats 4000000 in
theorem oB_58_4 : ((ox_mc 58).drop 96).all (ox_vL (ox_mi 58).1.cls (decide ((ox_mi 58).1.name = "<init>")) (ox_mi 58).2.2.1 (ox_mi 58).2.1) = true := by decide +kernel
theorem oJ_58_3 : ((ox_mc 58).drop 72).all (ox_vL (ox_mi 58).1.cls (decide ((ox_mi 58).1.name = "<init>")) (ox_mi 58).2.2.1 (ox_mi 58).2.1) = true := by
  rw [← List.take_append_drop 24 ((ox_mc 58).drop 72), List.all_append, oB_58_3, Bool.true_and, List.drop_drop]
  exact oB_58_4
theorem oJ_58_2 : ((ox_mc 58).drop 48).all (ox_vL (ox_mi 58).1.cls (decide ((ox_mi 58).1.name = "<init>")) (ox_mi 58).2.2.1 (ox_mi 58).2.1) = true := by
  rw [← List.take_append_drop 24 ((ox_mc 58).drop 48), List.all_append, oB_58_2, Bool.true_and, List.drop_drop]
  exact oJ_58_3
theorem oJ_58_1 : ((ox_mc 58).drop 24).all (ox_vL (ox_mi 58).1.cls (decide ((ox_mi 58).1.name = "<init>")) (ox_mi 58).2.2.1 (ox_mi 58).2.1) = true := by
  rw [← List.take_append_drop 24 ((ox_mc 58).drop 24), List.all_append, oB_58_1, Bool.true_and, List.drop_drop]
  exact oJ_58_2
theorem oJ_58_0 : ((ox_mc 58).drop 0).all (ox_vL (ox_mi 58).1.cls (decide ((ox_mi 58).1.name = "<init>")) (ox_mi 58).2.2.1 (ox_mi 58).2.1) = true := by
  rw [← List.take_append_drop 24 ((ox_mc 58).drop 0), List.all_append, oB_58_0, Bool.true_and, List.drop_drop]
  exact oJ_58_1
theorem oK_58 : ox_vW 58 = true := by
  unfold ox_vW
  rw [oA_58, Bool.true_and]
  exact oJ_58_0
set_option maxRecDepth 100000 in
set_option maxHeartbeats 4000000 in
theorem oK_59 : ox_vW 59 = true := by decide +kernel
set_option maxRecDepth 100000 in
set_option maxHeartbeats 4000000 in
theorem oK_60 : ox_vW 60 = true := by decide +kernel
theorem oL_1 : ∀ j ∈ [33, 34, 35, 36, 37, 38, 39, 40, 41, 42, 43, 44, 45, 47, 48, 49, 50, 51, 52, 53, 54, 55, 56, 57, 58, 59, 60], ox_vW j = true := List.forall_mem_cons.mpr ⟨oK_33, List.forall_mem_cons.mpr ⟨oK_34, List.forall_mem_cons.mpr ⟨oK_35, List.forall_mem_cons.mpr ⟨oK_36, List.forall_mem_cons.mpr ⟨oK_37, List.forall_mem_cons.mpr ⟨oK_38, List.forall_mem_cons.mpr ⟨oK_39, List.forall_mem_cons.mpr ⟨oK_40, List.forall_mem_cons.mpr ⟨oK_41, List.forall_mem_cons.mpr ⟨oK_42, List.forall_mem_cons.mpr ⟨oK_43, List.forall_mem_cons.mpr ⟨oK_44, List.forall_mem_cons.mpr ⟨oK_45, List.forall_mem_cons.mpr ⟨oK_47, List.forall_mem_cons.mpr ⟨oK_48, List.forall_mem_cons.mpr ⟨oK_49, List.forall_mem_cons.mpr ⟨oK_50, List.forall_mem_cons.mpr ⟨oK_51, List.forall_mem_cons.mpr ⟨oK_52, List.forall_mem_cons.mpr ⟨oK_53, List.forall_mem_cons.mpr ⟨oK_54, List.forall_mem_cons.mpr ⟨oK_55, List.forall_mem_cons.mpr ⟨oK_56, List.forall_mem_cons.mpr ⟨oK_57, List.forall_mem_cons.mpr ⟨oK_58, List.forall_mem_cons.mpr ⟨oK_59, List.forall_mem_cons.mpr ⟨oK_60, fun _ h => absurd h List.not_mem_nil⟩⟩⟩⟩⟩⟩⟩⟩⟩⟩⟩⟩⟩⟩⟩⟩⟩⟩⟩⟩⟩⟩⟩⟩⟩⟩⟩
