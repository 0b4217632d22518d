set_option maxRecDepth 100000 in
theorem ox_mc_n (n : Nat) : (ox_mc (n + 236)).isEmpty = true := rfl
theorem ox_mc_hi : ∀ j, 236 ≤ j → (ox_mc j).isEmpty = true := by
  intro j hj
  obtain ⟨n, rfl⟩ : ∃ n, j = n + 236 := ⟨j - 236, by omega⟩
  exact ox_mc_n n
theorem ox_mc_math : ∀ j, 213 ≤ j → j ≤ 216 → (ox_mc j).isEmpty = true := by
  intro j h1 h2
  rcases (show j = 213 ∨ j = 214 ∨ j = 215 ∨ j = 216 by omega) with rfl | rfl | rfl | rfl <;> rfl
theorem ox_ok : ∀ j, (ox_mc j).isEmpty = false → ox_vW j = true := by
  intro j hj
  have hlt : j < 236 := Nat.lt_of_not_le fun h => by rw [ox_mc_hi j h] at hj; cases hj
  have hma : ¬ (213 ≤ j ∧ j ≤ 216) := fun h => by rw [ox_mc_math j h.1 h.2] at hj; cases hj
  have h46 : j ≠ 46 := fun h => by subst h; rw [show (ox_mc 46).isEmpty = true from rfl] at hj; cases hj
  by_cases h0 : j < 33
  · exact oL_0 j (by simp; omega)
  by_cases h1 : j < 61
  · exact oL_1 j (by simp; omega)
  by_cases h2 : j < 106
  · exact oL_2 j (by simp; omega)
  by_cases h3 : j < 135
  · exact oL_3 j (by simp; omega)
  by_cases h4 : j < 156
  · exact oL_4 j (by simp; omega)
  by_cases h5 : j < 172
  · exact oL_5 j (by simp; omega)
  by_cases h6 : j < 193
  · exact oL_6 j (by simp; omega)
  by_cases h7 : j < 219
  · exact oL_7 j (by simp; omega)
  exact oL_8 j (by simp; omega)
