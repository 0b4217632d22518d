set_option maxRecDepth 100000 in
set_option maxHeartbeats 4000000 in
theorem oA_193 : ox_jok 193 = true := by decide +kernel
set_option maxRecDepth 100000 in
set_option maxHeartbeats 4000000 in
theorem oB_193_0 : (((ox_mc 193).drop 0).take 24).all (ox_vL (ox_mi 193).1.cls (decide ((ox_mi 193).1.name = "<init>")) (ox_mi 193).2.2.1 (ox_mi 193).2.1) = true := by decide +kernel
set_option maxRecDepth 100000 in
set_option maxHeartbeats 4000000 in
theorem oB_193_1 : (((ox_mc 193).drop 24).take 24).all (ox_vL (ox_mi 193).1.cls (decide ((ox_mi 193).1.name = "<init>")) (ox_mi 193).2.2.1 (ox_mi 193).2.1) = true := by decide +kernel
set_option maxRecDepth 100000 in
set_option maxHeartbeats 4000000 in
theorem oB_193_2 : (((ox_mc 193).drop 48).take 24).all (ox_vL (ox_mi 193).1.cls (decide ((ox_mi 193).1.name = "<init>")) (ox_mi 193).2.2.1 (ox_mi 193).2.1) = true := by decide +kernel
set_option maxRecDepth 100000 in
set_option maxHeartbeats 4000000 in
theorem oB_193_3 : (((ox_mc 193).drop 72).take 24).all (ox_vL (ox_mi 193).1.cls (decide ((ox_mi 193).1.name = "<init>")) (ox_mi 193).2.2.1 (ox_mi 193).2.1) = true := by decide +kernel
set_option maxRecDepth 100000 in
set_option maxHeartbeats 4000000 in
theorem oB_193_4 : (((ox_mc 193).drop 96).take 24).all (ox_vL (ox_mi 193).1.cls (decide ((ox_mi 193).1.name = "<init>")) (ox_mi 193).2.2.1 (ox_mi 193).2.1) = true := by decide +kernel
set_option maxRecDepth 100000 in
set_option maxHeartbeats 4000000 in
theorem oB_193_5 : (((ox_mc 193).drop 120).take 24).all (ox_vL (ox_mi 193).1.cls (decide ((ox_mi 193).1.name = "<init>")) (ox_mi 193).2.2.1 (ox_mi 193).2.1) = true := by decide +kernel
set_option maxRecDepth 100000 in
set_option maxHeartbeats 4000000 in
theorem oB_193_6 : ((ox_mc 193).drop 144).all (ox_vL (ox_mi 193).1.cls (decide ((ox_mi 193).1.name = "<init>")) (ox_mi 193).2.2.1 (ox_mi 193).2.1) = true := by decide +kernel
theorem oJ_193_5 : ((ox_mc 193).drop 120).all (ox_vL (ox_mi 193).1.cls (decide ((ox_mi 193).1.name = "<init>")) (ox_mi 193).2.2.1 (ox_mi 193).2.1) = true := by
  rw [← List.take_append_drop 24 ((ox_mc 193).drop 120), List.all_append, oB_193_5, Bool.true_and, List.drop_drop]
  exact oB_193_6
theorem oJ_193_4 : ((ox_mc 193).drop 96).all (ox_vL (ox_mi 193).1.cls (decide ((ox_mi 193).1.name = "<init>")) (ox_mi 193).2.2.1 (ox_mi 193).2.1) = true := by
  rw [← List.take_append_drop 24 ((ox_mc 193).drop 96), List.all_append, oB_193_4, Bool.true_and, List.drop_drop]
  exact oJ_193_5
theorem oJ_193_3 : ((ox_mc 193).drop 72).all (ox_vL (ox_mi 193).1.cls (decide ((ox_mi 193).1.name = "<init>")) (ox_mi 193).2.2.1 (ox_mi 193).2.1) = true := by
  rw [← List.take_append_drop 24 ((ox_mc 193).drop 72), List.all_append, oB_193_3, Bool.true_and, List.drop_drop]
  exact oJ_193_4
theorem oJ_193_2 : ((ox_mc 193).drop 48).all (ox_vL (ox_mi 193).1.cls (decide ((ox_mi 193).1.name = "<init>")) (ox_mi 193).2.2.1 (ox_mi 193).2.1) = true := by
  rw [← List.take_append_drop 24 ((ox_mc 193).drop 48), List.all_append, oB_193_2, Bool.true_and, List.drop_drop]
  exact oJ_193_3
theorem oJ_193_1 : ((ox_mc 193).drop 24).all (ox_vL (ox_mi 193).1.cls (decide ((ox_mi 193).1.name = "<init>")) (ox_mi 193).2.2.1 (ox_mi 193).2.1) = true := by
  rw [← List.take_append_drop 24 ((ox_mc 193).drop 24), List.all_append, oB_193_1, Bool.true_and, List.drop_drop]
  exact oJ_193_2
theorem oJ_193_0 : ((ox_mc 193).drop 0).all (ox_vL (ox_mi 193).1.cls (decide ((ox_mi 193).1.name = "<init>")) (ox_mi 193).2.2.1 (ox_mi 193).2.1) = true := by
  rw [← List.take_append_drop 24 ((ox_mc 193).drop 0), List.all_append, oB_193_0, Bool.true_and, List.drop_drop]
  exact oJ_193_1
theorem oK_193 : ox_vW 193 = true := by
  unfold ox_vW
  rw [oA_193, Bool.true_and]
  exact oJ_193_0
set_option maxRecDepth 100000 in
set_option maxHeartbeats 4000000 in
theorem oK_194 : ox_vW 194 = true := by decide +kernel
set_option maxRecDepth 100000 in
set_option maxHeartbeats 4000000 in
theorem oK_195 : ox_vW 195 = true := by decide +kernel
set_option maxRecDepth 100000 in
set_option maxHeartbeats 4000000 in
theorem oK_196 : ox_vW 196 = true := by decide +kernel
