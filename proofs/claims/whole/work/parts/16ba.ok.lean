set_option maxRecDepth 100000 in
set_option maxHeartbeats 4000000 in
theorem oA_47 : ox_jok 47 = true := by decide +kernel
set_option maxRecDepth 100000 in
set_option maxHeartbeats 4000000 in
theorem oB_47_0 : (((ox_mc 47).drop 0).take 24).all (ox_vL (ox_mi 47).1.cls (decide ((ox_mi 47).1.name = "<init>")) (ox_mi 47).2.2.1 (ox_mi 47).2.1) = true := by decide +kernel
set_option maxRecDepth 100000 in
set_option maxHeartbeats 4000000 in
theorem oB_47_1 : (((ox_mc 47).drop 24).take 24).all (ox_vL (ox_mi 47).1.cls (decide ((ox_mi 47).1.name = "<init>")) (ox_mi 47).2.2.1 (ox_mi 47).2.1) = true := by decide +kernel
set_option maxRecDepth 100000 in
set_option maxHeartbeats 4000000 in
theorem oB_47_2 : (((ox_mc 47).drop 48).take 24).all (ox_vL (ox_mi 47).1.cls (decide ((ox_mi 47).1.name = "<init>")) (ox_mi 47).2.2.1 (ox_mi 47).2.1) = true := by decide +kernel
set_option maxRecDepth 100000 in
set_option maxHeartbeats 4000000 in
theorem oB_47_3 : (((ox_mc 47).drop 72).take 24).all (ox_vL (ox_mi 47).1.cls (decide ((ox_mi 47).1.name = "<init>")) (ox_mi 47).2.2.1 (ox_mi 47).2.1) = true := by decide +kernel
set_option maxRecDepth 100000 in
set_option maxHeartbeats 4000000 in
theorem oB_47_4 : (((ox_mc 47).drop 96).take 24).all (ox_vL (ox_mi 47).1.cls (decide ((ox_mi 47).1.name = "<init>")) (ox_mi 47).2.2.1 (ox_mi 47).2.1) = true := by decide +kernel
set_option maxRecDepth 100000 in
set_option maxHeartbeats 4000000 in
theorem oB_47_5 : (((ox_mc 47).drop 120).take 24).all (ox_vL (ox_mi 47).1.cls (decide ((ox_mi 47).1.name = "<init>")) (ox_mi 47).2.2.1 (ox_mi 47).2.1) = true := by decide +kernel
set_option maxRecDepth 100000 in
set_option maxHeartbeats 4000000 in
theorem oB_47_6 : ((ox_mc 47).drop 144).all (ox_vL (ox_mi 47).1.cls (decide ((ox_mi 47).1.name = "<init>")) (ox_mi 47).2.2.1 (ox_mi 47).2.1) = true := by decide +kernel
theorem oJ_47_5 : ((ox_mc 47).drop 120).all (ox_vL (ox_mi 47).1.cls (decide ((ox_mi 47).1.name = "<init>")) (ox_mi 47).2.2.1 (ox_mi 47).2.1) = true := by
  rw [← List.take_append_drop 24 ((ox_mc 47).drop 120), List.all_append, oB_47_5, Bool.true_and, List.drop_drop]
  exact oB_47_6
theorem oJ_47_4 : ((ox_mc 47).drop 96).all (ox_vL (ox_mi 47).1.cls (decide ((ox_mi 47).1.name = "<init>")) (ox_mi 47).2.2.1 (ox_mi 47).2.1) = true := by
  rw [← List.take_append_drop 24 ((ox_mc 47).drop 96), List.all_append, oB_47_4, Bool.true_and, List.drop_drop]
  exact oJ_47_5
theorem oJ_47_3 : ((ox_mc 47).drop 72).all (ox_vL (ox_mi 47).1.cls (decide ((ox_mi 47).1.name = "<init>")) (ox_mi 47).2.2.1 (ox_mi 47).2.1) = true := by
  rw [← List.take_append_drop 24 ((ox_mc 47).drop 72), List.all_append, oB_47_3, Bool.true_and, List.drop_drop]
  exact oJ_47_4
theorem oJ_47_2 : ((ox_mc 47).drop 48).all (ox_vL (ox_mi 47).1.cls (decide ((ox_mi 47).1.name = "<init>")) (ox_mi 47).2.2.1 (ox_mi 47).2.1) = true := by
  rw [← List.take_append_drop 24 ((ox_mc 47).drop 48), List.all_append, oB_47_2, Bool.true_and, List.drop_drop]
  exact oJ_47_3
theorem oJ_47_1 : ((ox_mc 47).drop 24).all (ox_vL (ox_mi 47).1.cls (decide ((ox_mi 47).1.name = "<init>")) (ox_mi 47).2.2.1 (ox_mi 47).2.1) = true := by
  rw [← List.take_append_drop 24 ((ox_mc 47).drop 24), List.all_append, oB_47_1, Bool.true_and, List.drop_drop]
  exact oJ_47_2
theorem oJ_47_0 : ((ox_mc 47).drop 0).all (ox_vL (ox_mi 47).1.cls (decide ((ox_mi 47).1.name = "<init>")) (ox_mi 47).2.2.1 (ox_mi 47).2.1) = true := by
  rw [← List.take_append_drop 24 ((ox_mc 47).drop 0), List.all_append, oB_47_0, Bool.true_and, List.drop_drop]
  exact oJ_47_1
theorem oK_47 : ox_vW 47 = true := by
  unfold ox_vW
  rw [oA_47, Bool.true_and]
  exact oJ_47_0
