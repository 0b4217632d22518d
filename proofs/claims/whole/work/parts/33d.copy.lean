/-! the specials -/
/-- the specials: methods whose bodies hold a native copy -/
def lw_sp : ox_E := fun j as mc ms S Q => (j = 231 ∧ ∃ a n, as = [.inr (.inr a), .inl (nI n)] ∧ S.K a = 15 ∧ a ≠ S.n ∧ n < S.len a ∧ S.len a < 2 ^ 31 ∧ n ≤ 67108864 ∧ 1 ≤ mc ∧ n ≤ ms ∧ Q (some (.inr (.inr S.n))) (oCpy S a n)) ∨ (j = 229 ∧ ∃ a n, as = [.inr (.inr a), .inl (nI n)] ∧ S.K a = 20 ∧ a ≠ S.n ∧ S.len a < n ∧ n ≤ 67108864 ∧ (∀ j, j < S.len a → S.K (S.rR a j) = 3 ∧ S.rR a j < S.n) ∧ 1 ≤ mc ∧ n ≤ ms ∧ Q (some (.inr (.inr S.n))) (oCpr S a n))
theorem lw_sp_mono : ox_mono lw_sp := by
  rintro j as mc ms S Q Q' h (⟨e, a, n, h1, h2, h3, h4, h5, h6, h7, h8, h9⟩ | ⟨e, a, n, h1, h2, h3, h4, h5, h6, h7, h8, h9⟩)
  · exact Or.inl ⟨e, a, n, h1, h2, h3, h4, h5, h6, h7, h8, h _ _ h9⟩
  · exact Or.inr ⟨e, a, n, h1, h2, h3, h4, h5, h6, h7, h8, h _ _ h9⟩
theorem lw_sp_ok (l : Launch) (D : va_G) (y : Nat → ClassId) (b : Nat) (ro : ox_St) : ∀ d j as mc ms S Q, lw_sp j as mc ms S Q → ox_Met l D y b ro (d + 4) j as mc ms S Q := by
  rintro d j as mc ms S Q (⟨rfl, a, n, rfl, h2, h3, h4, h5, h6, h7, h8, h9⟩ | ⟨rfl, a, n, rfl, h2, h3, h4, h5, h6, h7, h8, h9⟩)
  · exact oc_m231 h2 h3 h4 h5 h6 h7 h8 h9
  · exact oc_m229 (fun U hU => (hU.2.2.2.1 20 (by decide) (by decide)).2) h2 h3 h4 h5 h6 h7 h8 h9
/-- Arrays.copyOf as a call -/
theorem s_231 {d mr sr : Nat} {S : ox_St} {Q : ox_Q} {a n : Nat} (h2 : S.K a = 15) (h3 : a ≠ S.n) (h4 : n < S.len a) (h5 : S.len a < 2 ^ 31) (h6 : n ≤ 67108864) (h7 : 1 ≤ mr) (h8 : n ≤ sr) (hQ : Q (some (.inr (.inr S.n))) (oCpy S a n)) : ox_M lw_sp (d + 4) 231 [.inr (.inr a), .inl (nI n)] mr sr S Q := Or.inl ⟨by omega, Or.inl ⟨rfl, a, n, rfl, h2, h3, h4, h5, h6, h7, h8, hQ⟩⟩
theorem s_229 {d mr sr : Nat} {S : ox_St} {Q : ox_Q} {a n : Nat} (h2 : S.K a = 20) (h3 : a ≠ S.n) (h4 : S.len a < n) (h5 : n ≤ 67108864) (h6 : ∀ j, j < S.len a → S.K (S.rR a j) = 3 ∧ S.rR a j < S.n) (h7 : 1 ≤ mr) (h8 : n ≤ sr) (hQ : Q (some (.inr (.inr S.n))) (oCpr S a n)) : ox_M lw_sp (d + 4) 229 [.inr (.inr a), .inl (nI n)] mr sr S Q := Or.inl ⟨by omega, Or.inr ⟨rfl, a, n, rfl, h2, h3, h4, h5, h6, h7, h8, hQ⟩⟩
