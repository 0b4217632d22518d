/-! the first turn of the law's loop, on fresh objects: what the start's picture holds -/
section OP4
variable {S : ox_St}
theorem p_C (hb : 0 < S.n) : oC1 (ap S.n oq_280 S) (S.n + 0) (S.n + 11) := ⟨ap_K rfl oq_280 (by decide +kernel), ap_R (v := 13) rfl hb oq_280 (by decide +kernel), ap_K rfl oq_280 (by decide +kernel), ap_I (v := 0) rfl oq_280 (by decide +kernel), ap_I (v := 0) rfl oq_280 (by decide +kernel), (ap_I (v := -1) rfl oq_280 (by decide +kernel)).trans (by decide), ap_I (v := 0) rfl oq_280 (by decide +kernel), ap_I (v := 0) rfl oq_280 (by decide +kernel), ap_R (v := 0) rfl hb oq_280 (by decide +kernel), (ap_I (v := -1) rfl oq_280 (by decide +kernel)).trans (by decide)⟩
/-- the tape of the class, of the reference -/
theorem p_T (hb : 0 < S.n) : (ap S.n oq_280 S).R 60 (S.n + 0) = S.n + 1 ∧ (ap S.n oq_280 S).K (S.n + 1) = 15 ∧ (ap S.n oq_280 S).len (S.n + 1) = 800 ∧ (ap S.n oq_280 S).I 61 (S.n + 0) = nI 0 ∧ (ap S.n oq_280 S).R 36 (S.n + 11) = 0 := ⟨ap_R (v := 3) rfl hb oq_280 (by decide +kernel), ap_K rfl oq_280 (by decide +kernel), ap_len rfl oq_280 (by decide +kernel), ap_I (v := 0) rfl oq_280 (by decide +kernel), ap_R (v := 0) rfl hb oq_280 (by decide +kernel)⟩
def oM2 (S : ox_St) (m : Nat) : Prop := oM1 S m ∧ S.R 71 m = m + 1 ∧ S.K (m + 1) = 15 ∧ S.len (m + 1) = 800 ∧ S.I 72 m = nI 0 ∧ S.I 96 m = -1
theorem p_M (hb : 0 < S.n) : oM2 (ap S.n oq_280 S) (S.n + 76) := ⟨⟨ap_K rfl oq_280 (by decide +kernel), ap_I (v := 0) rfl oq_280 (by decide +kernel), ap_I (v := 0) rfl oq_280 (by decide +kernel), ap_I (v := 0) rfl oq_280 (by decide +kernel), ap_I (v := 0) rfl oq_280 (by decide +kernel), (ap_I (v := -1) rfl oq_280 (by decide +kernel)).trans (by decide)⟩, ap_R (v := 79) rfl hb oq_280 (by decide +kernel), ap_K (a := 77) rfl oq_280 (by decide +kernel), ap_len (a := 77) rfl oq_280 (by decide +kernel), ap_I (v := 0) rfl oq_280 (by decide +kernel), (ap_I (v := -1) rfl oq_280 (by decide +kernel)).trans (by decide)⟩
/-- outside the class's cells -/
def oOut (b a : Nat) : Prop := a < b ∨ b + 76 ≤ a
theorem oM2.next {b : Nat} {S S' : ox_St} (h : oM2 S (b + 76)) (g : oAg (oOut b) S S') : oM2 S' (b + 76) := by
  obtain ⟨⟨m1, m2, m3, m4, m5, m6⟩, m7, m8, m9, m10, m11⟩ := h
  obtain ⟨g1, g2, g3, g4, -⟩ := g (b + 76) (Or.inr (Nat.le_refl _))
  obtain ⟨k1, k2, -⟩ := g (b + 76 + 1) (Or.inr (by omega))
  exact ⟨⟨g1.trans m1, (g3 _).trans m2, (g3 _).trans m3, (g3 _).trans m4, (g3 _).trans m5, (g3 _).trans m6⟩, (g4 _).trans m7, k1.trans m8, k2.trans m9, (g3 _).trans m10, (g3 _).trans m11⟩
theorem p_scr {x0 L : Nat} {xs : Nat → Int32} (hs : lw_scr x0 L xs S) (hx : x0 < S.n) (l : List oOp) : lw_scr x0 L xs (ap S.n l S) := by
  obtain ⟨h1, h2, -, -, -, h6, -⟩ := ap_lo (S := S) (b := S.n) rfl hx l
  exact ⟨h1.trans hs.1, h2.trans hs.2.1, fun j hj => (h6 j).trans (hs.2.2 j hj)⟩
end OP4
section OP5
variable {sp : ox_E}
theorem p_E {j : Nat} {as : List ox_V} {mc ms : Nat} {T : ox_St} {Q : ox_Q} (h1 : j ≠ 236) (h2 : j ≠ 237) (h : ox_M sp 1200 j as mc ms T Q) : lw_E (ox_M sp 1200) j as mc ms T Q := Or.inr (Or.inr ⟨h1, h2, h⟩)
end OP5
