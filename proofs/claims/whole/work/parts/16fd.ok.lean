set_option maxRecDepth 100000 in
set_option maxHeartbeats 4000000 in
theorem oA_168 : ox_jok 168 = true := by decide +kernel
set_option maxRecDepth 100000 in
set_option maxHeartbeats 4000000 in
theorem oB_168_0 : (((ox_mc 168).drop 0).take 24).all (ox_vL (ox_mi 168).1.cls (decide ((ox_mi 168).1.name = "<init>")) (ox_mi 168).2.2.1 (ox_mi 168).2.1) = true := by decide +kernel
set_option maxRecDepth 100000 in
set_option maxHeartbeats 4000000 in
theorem oB_168_1 : (((ox_mc 168).drop 24).take 24).all (ox_vL (ox_mi 168).1.cls (decide ((ox_mi 168).1.name = "<init>")) (ox_mi 168).2.2.1 (ox_mi 168).2.1) = true := by decide +kernel
set_option maxRecDepth 100000 in
set_option maxHeartbeats 4000000 in
theorem oB_168_2 : (((ox_mc 168).drop 48).take 24).all (ox_vL (ox_mi 168).1.cls (decide ((ox_mi 168).1.name = "<init>")) (ox_mi 168).2.2.1 (ox_mi 168).2.1) = true := by decide +kernel
set_option maxRecDepth 100000 in
set_option maxHeartbeats 4000000 in
theorem oB_168_3 : (((ox_mc 168).drop 72).take 24).all (ox_vL (ox_mi 168).1.cls (decide ((ox_mi 168).1.name = "<init>")) (ox_mi 168).2.2.1 (ox_mi 168).2.1) = true := by decide +kernel
set_option maxRecDepth 100000 in
set_option maxHeartbeats 4000000 in
theorem oB_168_4 : (((ox_mc 168).drop 96).take 24).all (ox_vL (ox_mi 168).1.cls (decide ((ox_mi 168).1.name = "<init>")) (ox_mi 168).2.2.1 (ox_mi 168).2.1) = true := by decide +kernel
set_option maxRecDepth 100000 in
set_option maxHeartbeats 4000000 in
theorem oB_168_5 : (((ox_mc 168).drop 120).take 24).all (ox_vL (ox_mi 168).1.cls (decide ((ox_mi 168).1.name = "<init>")) (ox_mi 168).2.2.1 (ox_mi 168).2.1) = true := by decide +kernel
set_option maxRecDepth 100000 in
set_option maxHeartbeats 4000000 in
theorem oB_168_6 : (((ox_mc 168).drop 144).take 24).all (ox_vL (ox_mi 168).1.cls (decide ((ox_mi 168).1.name = "<init>")) (ox_mi 168).2.2.1 (ox_mi 168).2.1) = true := by decide +kernel
set_option maxRecDepth 100000 in
set_option maxHeartbeats 4000000 in
theorem oB_168_7 : ((ox_mc 168).drop 168).all (ox_vL (ox_mi 168).1.cls (decide ((ox_mi 168).1.name = "<init>")) (ox_mi 168).2.2.1 (ox_mi 168).2.1) = true := by decide +kernel
theorem oJ_168_6 : ((ox_mc 168).drop 144).all (ox_vL (ox_mi 168).1.cls (decide ((ox_mi 168).1.name = "<init>")) (ox_mi 168).2.2.1 (ox_mi 168).2.1) = true := by
  rw [← List.take_append_drop 24 ((ox_mc 168).drop 144), List.all_append, oB_168_6, Bool.true_and, List.drop_drop]
  exact oB_168_7
theorem oJ_168_5 : ((ox_mc 168).drop 120).all (ox_vL (ox_mi 168).1.cls (decide ((ox_mi 168).1.name = "<init>")) (ox_mi 168).2.2.1 (ox_mi 168).2.1) = true := by
  rw [← List.take_append_drop 24 ((ox_mc 168).drop 120), List.all_append, oB_168_5, Bool.true_and, List.drop_drop]
  exact oJ_168_6
theorem oJ_168_4 : ((ox_mc 168).drop 96).all (ox_vL (ox_mi 168).1.cls (decide ((ox_mi 168).1.name = "<init>")) (ox_mi 168).2.2.1 (ox_mi 168).2.1) = true := by
  rw [← List.take_append_drop 24 ((ox_mc 168).drop 96), List.all_append, oB_168_4, Bool.true_and, List.drop_drop]
  exact oJ_168_5
theorem oJ_168_3 : ((ox_mc 168).drop 72).all (ox_vL (ox_mi 168).1.cls (decide ((ox_mi 168).1.name = "<init>")) (ox_mi 168).2.2.1 (ox_mi 168).2.1) = true := by
  rw [← List.take_append_drop 24 ((ox_mc 168).drop 72), List.all_append, oB_168_3, Bool.true_and, List.drop_drop]
  exact oJ_168_4
theorem oJ_168_2 : ((ox_mc 168).drop 48).all (ox_vL (ox_mi 168).1.cls (decide ((ox_mi 168).1.name = "<init>")) (ox_mi 168).2.2.1 (ox_mi 168).2.1) = true := by
  rw [← List.take_append_drop 24 ((ox_mc 168).drop 48), List.all_append, oB_168_2, Bool.true_and, List.drop_drop]
  exact oJ_168_3
theorem oJ_168_1 : ((ox_mc 168).drop 24).all (ox_vL (ox_mi 168).1.cls (decide ((ox_mi 168).1.name = "<init>")) (ox_mi 168).2.2.1 (ox_mi 168).2.1) = true := by
  rw [← List.take_append_drop 24 ((ox_mc 168).drop 24), List.all_append, oB_168_1, Bool.true_and, List.drop_drop]
  exact oJ_168_2
theorem oJ_168_0 : ((ox_mc 168).drop 0).all (ox_vL (ox_mi 168).1.cls (decide ((ox_mi 168).1.name = "<init>")) (ox_mi 168).2.2.1 (ox_mi 168).2.1) = true := by
  rw [← List.take_append_drop 24 ((ox_mc 168).drop 0), List.all_append, oB_168_0, Bool.true_and, List.drop_drop]
  exact oJ_168_1
theorem oK_168 : ox_vW 168 = true := by
  unfold ox_vW
  rw [oA_168, Bool.true_and]
  exact oJ_168_0
