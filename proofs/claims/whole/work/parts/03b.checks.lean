/-! the picture's fields, rows and new cells against the heap -/
def ox_T0 : List Cond := lw_tbl.filter goodWord
theorem ox_in {i : Nat} {w : Cond} (h : lw_tbl[i]? = some w) (hg : goodWord w = true) : w ∈ ox_T0 := List.mem_filter.mpr ⟨List.mem_of_getElem? h, hg⟩
set_option maxRecDepth 100000 in
set_option maxHeartbeats 4000000 in
theorem ox_nm : ∀ κ, κ < 15 → ∀ a, a < (ox_kf κ).length → ∀ b, b < (ox_kf κ).length → a ≠ b → (ox_T κ a).2.1 ≠ (ox_T κ b).2.1 := by decide +kernel
set_option maxRecDepth 100000 in
set_option maxHeartbeats 4000000 in
theorem ox_nd : ∀ κ, κ < 15 → ∀ a, a < (ox_kf κ).length → ∀ b, b < (ox_kf κ).length → a ≠ b → (ox_kf κ).getD a 0 ≠ (ox_kf κ).getD b 0 := by decide +kernel
def ox_ftk : FieldType → Nat
  | .int => 0
  | .long => 1
  | .boolean => 3
  | .object _ => 2
  | .array _ => 2
  | _ => 9
set_option maxRecDepth 100000 in
set_option maxHeartbeats 4000000 in
theorem ox_fty : ∀ F, F < 142 → (parseFieldDescriptor (ox_fd F).2.2.1).map ox_ftk = some (ox_ft F) := by decide +kernel
set_option maxRecDepth 100000 in
set_option maxHeartbeats 4000000 in
theorem ox_lays : ∀ κ, κ < 15 → ∀ k, k < (ox_kf κ).length → (u_lay (ox_kn κ) (ox_T κ) k) ∈ lw_tbl ∧ goodWord (u_lay (ox_kn κ) (ox_T κ) k) = true := by decide +kernel
set_option maxRecDepth 100000 in
set_option maxHeartbeats 4000000 in
theorem ox_kfF : ∀ κ, κ < 15 → ∀ k, k < (ox_kf κ).length → (ox_kf κ).getD k 0 < 142 := by decide +kernel
