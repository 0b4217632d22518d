set_option maxRecDepth 100000 in
set_option maxHeartbeats 4000000 in
theorem oK_201 : ox_vW 201 = true := by decide +kernel
set_option maxRecDepth 100000 in
set_option maxHeartbeats 4000000 in
theorem oK_202 : ox_vW 202 = true := by decide +kernel
set_option maxRecDepth 100000 in
set_option maxHeartbeats 4000000 in
theorem oA_203 : ox_jok 203 = true := by decide +kernel
set_option maxRecDepth 100000 in
set_option maxHeartbeats 4000000 in
theorem oB_203_0 : (((ox_mc 203).drop 0).take 24).all (ox_vL (ox_mi 203).1.cls (decide ((ox_mi 203).1.name = "<init>")) (ox_mi 203).2.2.1 (ox_mi 203).2.1) = true := by decide +kernel
set_option maxRecDepth 100000 in
set_option maxHeartbeats 4000000 in
theorem oB_203_1 : (((ox_mc 203).drop 24).take 24).all (ox_vL (ox_mi 203).1.cls (decide ((ox_mi 203).1.name = "<init>")) (ox_mi 203).2.2.1 (ox_mi 203).2.1) = true := by decide +kernel
set_option maxRecDepth 100000 in
set_option maxHeartbeats 4000000 in
theorem oB_203_2 : (((ox_mc 203).drop 48).take 24).all (ox_vL (ox_mi 203).1.cls (decide ((ox_mi 203).1.name = "<init>")) (ox_mi 203).2.2.1 (ox_mi 203).2.1) = true := by decide +kernel
set_option maxRecDepth 100000 in
set_option maxHeartbeats 4000000 in
theorem oB_203_3 : (((ox_mc 203).drop 72).take 24).all (ox_vL (ox_mi 203).1.cls (decide ((ox_mi 203).1.name = "<init>")) (ox_mi 203).2.2.1 (ox_mi 203).2.1) = true := by decide +kernel
set_option maxRecDepth 100000 in
set_option maxHeartbeats 4000000 in
theorem oB_203_4 : (((ox_mc 203).drop 96).take 24).all (ox_vL (ox_mi 203).1.cls (decide ((ox_mi 203).1.name = "<init>")) (ox_mi 203).2.2.1 (ox_mi 203).2.1) = true := by decide +kernel
set_option maxRecDepth 100000 in
set_option maxHeartbeats 4000000 in
theorem oB_203_5 : (((ox_mc 203).drop 120).take 24).all (ox_vL (ox_mi 203).1.cls (decide ((ox_mi 203).1.name = "<init>")) (ox_mi 203).2.2.1 (ox_mi 203).2.1) = true := by decide +kernel
set_option maxRecDepth 100000 in
set_option maxHeartbeats 4000000 in
theorem oB_203_6 : (((ox_mc 203).drop 144).take 24).all (ox_vL (ox_mi 203).1.cls (decide ((ox_mi 203).1.name = "<init>")) (ox_mi 203).2.2.1 (ox_mi 203).2.1) = true := by decide +kernel
set_option maxRecDepth 100000 in
set_option maxHeartbeats 4000000 in
theorem oB_203_7 : ((ox_mc 203).drop 168).all (ox_vL (ox_mi 203).1.cls (decide ((ox_mi 203).1.name = "<init>")) (ox_mi 203).2.2.1 (ox_mi 203).2.1) = true := by decide +kernel
theorem oJ_203_6 : ((ox_mc 203).drop 144).all (ox_vL (ox_mi 203).1.cls (decide ((ox_mi 203).1.name = "<init>")) (ox_mi 203).2.2.1 (ox_mi 203).2.1) = true := by
  rw [← List.take_append_drop 24 ((ox_mc 203).drop 144), List.all_append, oB_203_6, Bool.true_and, List.drop_drop]
  exact oB_203_7
theorem oJ_203_5 : ((ox_mc 203).drop 120).all (ox_vL (ox_mi 203).1.cls (decide ((ox_mi 203).1.name = "<init>")) (ox_mi 203).2.2.1 (ox_mi 203).2.1) = true := by
  rw [← List.take_append_drop 24 ((ox_mc 203).drop 120), List.all_append, oB_203_5, Bool.true_and, List.drop_drop]
  exact oJ_203_6
theorem oJ_203_4 : ((ox_mc 203).drop 96).all (ox_vL (ox_mi 203).1.cls (decide ((ox_mi 203).1.name = "<init>")) (ox_mi 203).2.2.1 (ox_mi 203).2.1) = true := by
  rw [← List.take_append_drop 24 ((ox_mc 203).drop 96), List.all_append, oB_203_4, Bool.true_and, List.drop_drop]
  exact oJ_203_5
theorem oJ_203_3 : ((ox_mc 203).drop 72).all (ox_vL (ox_mi 203).1.cls (decide ((ox_mi 203).1.name = "<init>")) (ox_mi 203).2.2.1 (ox_mi 203).2.1) = true := by
  rw [← List.take_append_drop 24 ((ox_mc 203).drop 72), List.all_append, oB_203_3, Bool.true_and, List.drop_drop]
  exact oJ_203_4
theorem oJ_203_2 : ((ox_mc 203).drop 48).all (ox_vL (ox_mi 203).1.cls (decide ((ox_mi 203).1.name = "<init>")) (ox_mi 203).2.2.1 (ox_mi 203).2.1) = true := by
  rw [← List.take_append_drop 24 ((ox_mc 203).drop 48), List.all_append, oB_203_2, Bool.true_and, List.drop_drop]
  exact oJ_203_3
theorem oJ_203_1 : ((ox_mc 203).drop 24).all (ox_vL (ox_mi 203).1.cls (decide ((ox_mi 203).1.name = "<init>")) (ox_mi 203).2.2.1 (ox_mi 203).2.1) = true := by
  rw [← List.take_append_drop 24 ((ox_mc 203).drop 24), List.all_append, oB_203_1, Bool.true_and, List.drop_drop]
  exact oJ_203_2
theorem oJ_203_0 : ((ox_mc 203).drop 0).all (ox_vL (ox_mi 203).1.cls (decide ((ox_mi 203).1.name = "<init>")) (ox_mi 203).2.2.1 (ox_mi 203).2.1) = true := by
  rw [← List.take_append_drop 24 ((ox_mc 203).drop 0), List.all_append, oB_203_0, Bool.true_and, List.drop_drop]
  exact oJ_203_1
theorem oK_203 : ox_vW 203 = true := by
  unfold ox_vW
  rw [oA_203, Bool.true_and]
  exact oJ_203_0
