set_option maxRecDepth 100000 in
set_option maxHeartbeats 4000000 in
theorem oA_165 : ox_jok 165 = true := by decide +kernel
set_option maxRecDepth 100000 in
set_option maxHeartbeats 4000000 in
theorem oB_165_0 : (((ox_mc 165).drop 0).take 24).all (ox_vL (ox_mi 165).1.cls (decide ((ox_mi 165).1.name = "<init>")) (ox_mi 165).2.2.1 (ox_mi 165).2.1) = true := by decide +kernel
set_option maxRecDepth 100000 in
set_option maxHeartbeats 4000000 in
theorem oB_165_1 : (((ox_mc 165).drop 24).take 24).all (ox_vL (ox_mi 165).1.cls (decide ((ox_mi 165).1.name = "<init>")) (ox_mi 165).2.2.1 (ox_mi 165).2.1) = true := by decide +kernel
set_option maxRecDepth 100000 in
set_option maxHeartbeats 4000000 in
theorem oB_165_2 : (((ox_mc 165).drop 48).take 24).all (ox_vL (ox_mi 165).1.cls (decide ((ox_mi 165).1.name = "<init>")) (ox_mi 165).2.2.1 (ox_mi 165).2.1) = true := by decide +kernel
set_option maxRecDepth 100000 in
set_option maxHeartbeats 4000000 in
theorem oB_165_3 : (((ox_mc 165).drop 72).take 24).all (ox_vL (ox_mi 165).1.cls (decide ((ox_mi 165).1.name = "<init>")) (ox_mi 165).2.2.1 (ox_mi 165).2.1) = true := by decide +kernel
set_option maxRecDepth 100000 in
set_option maxHeartbeats 4000000 in
theorem oB_165_4 : (((ox_mc 165).drop 96).take 24).all (ox_vL (ox_mi 165).1.cls (decide ((ox_mi 165).1.name = "<init>")) (ox_mi 165).2.2.1 (ox_mi 165).2.1) = true := by decide +kernel
set_option maxRecDepth 100000 in
set_option maxHeartbeats 4000000 in
theorem oB_165_5 : (((ox_mc 165).drop 120).take 24).all (ox_vL (ox_mi 165).1.cls (decide ((ox_mi 165).1.name = "<init>")) (ox_mi 165).2.2.1 (ox_mi 165).2.1) = true := by decide +kernel
set_option maxRecDepth 100000 in
set_option maxHeartbeats 4000000 in
theorem oB_165_6 : ((ox_mc 165).drop 144).all (ox_vL (ox_mi 165).1.cls (decide ((ox_mi 165).1.name = "<init>")) (ox_mi 165).2.2.1 (ox_mi 165).2.1) = true := by decide +kernel
theorem oJ_165_5 : ((ox_mc 165).drop 120).all (ox_vL (ox_mi 165).1.cls (decide ((ox_mi 165).1.name = "<init>")) (ox_mi 165).2.2.1 (ox_mi 165).2.1) = true := by
  rw [← List.take_append_drop 24 ((ox_mc 165).drop 120), List.all_append, oB_165_5, Bool.true_and, List.drop_drop]
  exact oB_165_6
theorem oJ_165_4 : ((ox_mc 165).drop 96).all (ox_vL (ox_mi 165).1.cls (decide ((ox_mi 165).1.name = "<init>")) (ox_mi 165).2.2.1 (ox_mi 165).2.1) = true := by
  rw [← List.take_append_drop 24 ((ox_mc 165).drop 96), List.all_append, oB_165_4, Bool.true_and, List.drop_drop]
  exact oJ_165_5
theorem oJ_165_3 : ((ox_mc 165).drop 72).all (ox_vL (ox_mi 165).1.cls (decide ((ox_mi 165).1.name = "<init>")) (ox_mi 165).2.2.1 (ox_mi 165).2.1) = true := by
  rw [← List.take_append_drop 24 ((ox_mc 165).drop 72), List.all_append, oB_165_3, Bool.true_and, List.drop_drop]
  exact oJ_165_4
theorem oJ_165_2 : ((ox_mc 165).drop 48).all (ox_vL (ox_mi 165).1.cls (decide ((ox_mi 165).1.name = "<init>")) (ox_mi 165).2.2.1 (ox_mi 165).2.1) = true := by
  rw [← List.take_append_drop 24 ((ox_mc 165).drop 48), List.all_append, oB_165_2, Bool.true_and, List.drop_drop]
  exact oJ_165_3
theorem oJ_165_1 : ((ox_mc 165).drop 24).all (ox_vL (ox_mi 165).1.cls (decide ((ox_mi 165).1.name = "<init>")) (ox_mi 165).2.2.1 (ox_mi 165).2.1) = true := by
  rw [← List.take_append_drop 24 ((ox_mc 165).drop 24), List.all_append, oB_165_1, Bool.true_and, List.drop_drop]
  exact oJ_165_2
theorem oJ_165_0 : ((ox_mc 165).drop 0).all (ox_vL (ox_mi 165).1.cls (decide ((ox_mi 165).1.name = "<init>")) (ox_mi 165).2.2.1 (ox_mi 165).2.1) = true := by
  rw [← List.take_append_drop 24 ((ox_mc 165).drop 0), List.all_append, oB_165_0, Bool.true_and, List.drop_drop]
  exact oJ_165_1
theorem oK_165 : ox_vW 165 = true := by
  unfold ox_vW
  rw [oA_165, Bool.true_and]
  exact oJ_165_0
