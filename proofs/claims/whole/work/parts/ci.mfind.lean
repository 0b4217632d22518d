/-! the reference: find -/
section RFd
variable {sp : ox_E} {d mr sr : Nat} {S : ox_St} {Q : ox_Q} {m ce : Nat} {γ : Int → Nat} {G : List (Nat × Int)} {w : Int64}
theorem r_188_l {E : ox_E} (hE : ox_mono E) (h : oML S m ce) (hG : rGl S m γ G) (hl : G.length ≤ 16) (hQ : Q (some (.inl (if xFindL w G < G.length then nI (xFindL w G) else -1))) S) : ∀ (k i mr sr : Nat), i + k = G.length → (∀ j, j < i → lN (G.getD j (0, 0)).1 ≠ w) → c_188_2 E m w (nI i) S mr sr Q := by
  obtain ⟨a1, a2, a3⟩ := h.row (F := 107) (o := 24) (k := 16) (n := 16) (by decide)
  have k14 := h.1
  intro k
  induction k with
  | zero =>
    intro i mr sr hi hall
    obtain rfl : i = G.length := by omega
    have := xFindL_i (w := w) G G.length (Nat.le_refl _) hall (fun z => absurd z (Nat.lt_irrefl _))
    rw [this, if_neg (Nat.lt_irrefl _)] at hQ
    exact f_188_2 hE ⟨by rw [k14]; rfl, fun _ => ⟨by rw [k14]; rfl, fun _ => ⟨trivial, hQ⟩, fun z => absurd (by rw [hG.1]; exact nI_le (Nat.le_refl _) (by omega)) z⟩, fun z => absurd (by rw [hG.1]; exact nI_le (Nat.le_refl _) (by omega)) z⟩
  | succ k ih =>
    intro i mr sr hi hall
    have hil : i < G.length := by omega
    have hn := (hG.2 i hil).1
    have nle : ¬ S.I 106 m ≤ nI i := by rw [hG.1]; exact nI_ge hil (by omega)
    refine f_188_2 hE ⟨by rw [k14]; rfl, fun z => absurd z nle, fun _ => ⟨by rw [k14]; rfl, by rw [a1, a2]; rfl, by rw [a1, a3]; exact vp_in_nI (by omega) (by decide), fun z => ⟨by rw [k14]; rfl, fun z2 => absurd z2 nle, fun _ => ⟨trivial, ?_⟩⟩, fun z => ?_⟩⟩
    · rw [a1, nI_clamp (by omega), hn] at z
      have := xFindL_i (w := w) G i (by omega) hall (fun _ => (lg_cmp_eq _ _).mp z)
      rw [this, if_pos hil] at hQ
      exact hQ
    · rw [a1, nI_clamp (by omega), hn] at z
      rw [nI_1]
      refine ih (i + 1) mr sr (by omega) (fun j hj => ?_)
      by_cases y : j = i
      · subst y; exact fun x => z ((lg_cmp_eq _ _).mpr x)
      · exact hall j (by omega)
theorem r_188 (hsp : ox_mono sp) (h : oML S m ce) (hG : rGl S m γ G) (hl : G.length ≤ 16) (hQ : Q (some (.inl (if xFindL w G < G.length then nI (xFindL w G) else -1))) S) : ox_M sp (d + 1) 188 [.inr (.inr m), .inr (.inl w)] mr sr S Q := by
  refine f_188 hsp ?_
  show c_188_2 (ox_M sp d) m w (nI 0) S mr sr Q
  exact r_188_l (ox_M_mono hsp _) h hG hl hQ G.length 0 mr sr (by omega) (fun j hj => absurd hj (Nat.not_lt_zero _))
end RFd
