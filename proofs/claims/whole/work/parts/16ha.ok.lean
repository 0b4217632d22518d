set_option maxRecDepth 100000 in
set_option maxHeartbeats 4000000 in
theorem oK_197 : ox_vW 197 = true := by decide +kernel
set_option maxRecDepth 100000 in
set_option maxHeartbeats 4000000 in
theorem oK_198 : ox_vW 198 = true := by decide +kernel
set_option maxRecDepth 100000 in
set_option maxHeartbeats 4000000 in
theorem oK_199 : ox_vW 199 = true := by decide +kernel
set_option maxRecDepth 100000 in
set_option maxHeartbeats 4000000 in
theorem oA_200 : ox_jok 200 = true := by decide +kernel
set_option maxRecDepth 100000 in
set_option maxHeartbeats 4000000 in
theorem oB_200_0 : (((ox_mc 200).drop 0).take 24).all (ox_vL (ox_mi 200).1.cls (decide ((ox_mi 200).1.name = "<init>")) (ox_mi 200).2.2.1 (ox_mi 200).2.1) = true := by decide +kernel
set_option maxRecDepth 100000 in
set_option maxHeartbeats 4000000 in
theorem oB_200_1 : (((ox_mc 200).drop 24).take 24).all (ox_vL (ox_mi 200).1.cls (decide ((ox_mi 200).1.name = "<init>")) (ox_mi 200).2.2.1 (ox_mi 200).2.1) = true := by decide +kernel
set_option maxRecDepth 100000 in
set_option maxHeartbeats 4000000 in
theorem oB_200_2 : (((ox_mc 200).drop 48).take 24).all (ox_vL (ox_mi 200).1.cls (decide ((ox_mi 200).1.name = "<init>")) (ox_mi 200).2.2.1 (ox_mi 200).2.1) = true := by decide +kernel
set_option maxRecDepth 100000 in
set_option maxHeartbeats 4000000 in
theorem oB_200_3 : (((ox_mc 200).drop 72).take 24).all (ox_vL (ox_mi 200).1.cls (decide ((ox_mi 200).1.name = "<init>")) (ox_mi 200).2.2.1 (ox_mi 200).2.1) = true := by decide +kernel
set_option maxRecDepth 100000 in
set_option maxHeartbeats 4000000 in
theorem oB_200_4 : (((ox_mc 200).drop 96).take 24).all (ox_vL (ox_mi 200).1.cls (decide ((ox_mi 200).1.name = "<init>")) (ox_mi 200).2.2.1 (ox_mi 200).2.1) = true := by decide +kernel
set_option maxRecDepth 100000 in
set_option maxHeartbeats 4000000 in
theorem oB_200_5 : ((ox_mc 200).drop 120).all (ox_vL (ox_mi 200).1.cls (decide ((ox_mi 200).1.name = "<init>")) (ox_mi 200).2.2.1 (ox_mi 200).2.1) = true := by decide +kernel
theorem oJ_200_4 : ((ox_mc 200).drop 96).all (ox_vL (ox_mi 200).1.cls (decide ((ox_mi 200).1.name = "<init>")) (ox_mi 200).2.2.1 (ox_mi 200).2.1) = true := by
  rw [← List.take_append_drop 24 ((ox_mc 200).drop 96), List.all_append, oB_200_4, Bool.true_and, List.drop_drop]
  exact oB_200_5
theorem oJ_200_3 : ((ox_mc 200).drop 72).all (ox_vL (ox_mi 200).1.cls (decide ((ox_mi 200).1.name = "<init>")) (ox_mi 200).2.2.1 (ox_mi 200).2.1) = true := by
  rw [← List.take_append_drop 24 ((ox_mc 200).drop 72), List.all_append, oB_200_3, Bool.true_and, List.drop_drop]
  exact oJ_200_4
theorem oJ_200_2 : ((ox_mc 200).drop 48).all (ox_vL (ox_mi 200).1.cls (decide ((ox_mi 200).1.name = "<init>")) (ox_mi 200).2.2.1 (ox_mi 200).2.1) = true := by
  rw [← List.take_append_drop 24 ((ox_mc 200).drop 48), List.all_append, oB_200_2, Bool.true_and, List.drop_drop]
  exact oJ_200_3
theorem oJ_200_1 : ((ox_mc 200).drop 24).all (ox_vL (ox_mi 200).1.cls (decide ((ox_mi 200).1.name = "<init>")) (ox_mi 200).2.2.1 (ox_mi 200).2.1) = true := by
  rw [← List.take_append_drop 24 ((ox_mc 200).drop 24), List.all_append, oB_200_1, Bool.true_and, List.drop_drop]
  exact oJ_200_2
theorem oJ_200_0 : ((ox_mc 200).drop 0).all (ox_vL (ox_mi 200).1.cls (decide ((ox_mi 200).1.name = "<init>")) (ox_mi 200).2.2.1 (ox_mi 200).2.1) = true := by
  rw [← List.take_append_drop 24 ((ox_mc 200).drop 0), List.all_append, oB_200_0, Bool.true_and, List.drop_drop]
  exact oJ_200_1
theorem oK_200 : ox_vW 200 = true := by
  unfold ox_vW
  rw [oA_200, Bool.true_and]
  exact oJ_200_0
