/-! the class reads: all codes are looked at -/
section CA
variable {sp : ox_E} {d mr sr : Nat} {S : ox_St} {Q : ox_Q} {x t n N : Nat} {A : Nat → Nat} {κ : Nat → oCd}
theorem s_112_2 (hsp : ox_mono sp) (hC : oCL S x) (k0 : S.K x = 13) (k2 : S.K (x + 2) = 1) (k3 : S.K (x + 3) = 6) (r64 : S.R 64 x = x + 2) (r65 : S.R 65 x = x + 3) (hR : S.R 1 (x + 2) = t) (hI : S.I 2 (x + 2) = nI n) (kt : n = 0 ∨ S.K t = 20) (lt : S.len t = N) (hn : n ≤ N) (hN : N < 2 ^ 31) (hA : ∀ j, j < n → S.rR t j = A j ∧ cSh S (A j) (κ j) ∧ (S.R 10 (A j) < x + 4 ∨ x + 10 < S.R 10 (A j)))
    (hQ1 : ∀ S', lkF x S S' → (∀ j, j < n → ∃ T, okT (κ j) T) → Q (some (.inl 1)) S')
    (hQ0 : ∀ S' j, lkF x S S' → j < n → (∀ i, i < j → ∃ T, okT (κ i) T) → ¬ (∃ T, okT (κ j) T) → Q (some (.inl 0)) (S'.sI 63 x (nI (1000 * j)))) : ∀ (r j mr sr : Nat) (V : ox_St), j + r = n → lkF x S V → (∀ i, i < j → ∃ T, okT (κ i) T) → c_112_2 (ox_M sp (d + 6)) x (nI j) V mr sr Q := by
  have hE : ox_mono (ox_M sp (d + 6)) := ox_M_mono hsp _
  have kp : ∀ V, lkF x S V → V.K x = 13 ∧ V.K (x + 2) = 1 ∧ V.R 64 x = x + 2 ∧ V.R 65 x = x + 3 ∧ V.R 1 (x + 2) = t ∧ V.I 2 (x + 2) = nI n ∧ V.K = S.K ∧ V.len = S.len := fun V f => by
    refine ⟨by rw [f.1]; exact k0, by rw [f.1]; exact k2, ?_, ?_, ?_, ?_, f.1, f.2.1⟩
    · rw [f.2.2.2.2.2.2.1 64 x (Or.inl (by omega))]; exact r64
    · rw [f.2.2.2.2.2.2.1 65 x (Or.inl (by omega))]; exact r65
    · rw [f.2.2.2.2.2.2.1 1 (x + 2) (Or.inl (by omega))]; exact hR
    · rw [f.2.2.2.2.2.2.2.1 2 (x + 2) (Or.inl (by omega))]; exact hI
  intro r
  induction r with
  | zero =>
    intro j mr sr V hj f ok
    have hj' : j = n := hj
    obtain ⟨v1, v2, v3, v4, v5, v6, v7, v8⟩ := kp V f
    refine f_112_2 hE ⟨by rw [v1]; rfl, by decide, by rw [v3]; exact v2, by decide, 0, 0, Nat.zero_le _, Nat.zero_le _, ?_⟩
    rw [v3]
    exact s_222 hsp v2 v6 (f_112_10 hE ⟨fun _ => ⟨Or.inr rfl, hQ1 V f (fun i hi => ok i (by omega))⟩, fun z => absurd (by rw [hj']; exact nI_le (Nat.le_refl _) (by omega)) z⟩)
  | succ r ih =>
    intro j mr sr V hj f ok
    obtain ⟨v1, v2, v3, v4, v5, v6, v7, v8⟩ := kp V f
    obtain ⟨a1, a2, a3⟩ := hA j (by omega)
    have k20 : S.K t = 20 := kt.elim (fun z => by omega) id
    refine f_112_2 hE ⟨by rw [v1]; rfl, by decide, by rw [v3]; exact v2, by decide, 0, 0, Nat.zero_le _, Nat.zero_le _, ?_⟩
    rw [v3]
    refine s_222 hsp v2 v6 (f_112_10 hE ⟨fun z => absurd z (nI_ge (by omega) (by omega)), fun _ => ⟨by rw [v1]; rfl, by rw [v1]; rfl, by decide, by rw [v3]; exact v2, by decide, 0, 0, Nat.zero_le _, Nat.zero_le _, ?_⟩⟩)
    rw [v3, v4]
    refine s_224 hsp v2 v5 v6 (by rw [v7]; exact k20) (by rw [v8]; exact lt) (j := j) (by omega) hn hN (f_112_25 hE ?_)
    have ea : V.rR t j = A j := by rw [f.2.2.2.2.1]; exact a1
    rw [ea]
    refine ⟨Or.inr (by rw [v7, a2.1]; rfl), by decide, by rw [v7]; exact k3, by decide, 0, 0, Nat.zero_le _, Nat.zero_le _, ?_⟩
    refine s_30 hsp (hC.lk f) (a2.lk f k3 a3) (by rw [f.code k3 a2.1]; exact a3) (fun S' f' ok' => f_112_31 hE ⟨fun _ => ?_, fun z => absurd z (by decide)⟩) (fun S' f' bad => f_112_31 hE ⟨fun z => absurd rfl z, fun _ => ?_⟩)
    · rw [nI_1]
      exact ih (j + 1) _ _ S' (by omega) (f.trans f') (fun i hi => by
        by_cases w : i = j
        · rw [w]; exact ok'
        · exact ok i (by omega))
    · have ks : S'.K x = 13 := by rw [f'.1]; exact v1
      have e1000 : (1000 : Int32) * nI j = nI (1000 * j) := (Int32.ofNat_mul 1000 j).symm
      rw [e1000]
      exact ⟨by rw [ks]; rfl, Or.inl rfl, hQ0 S' j (f.trans f') (by omega) ok bad⟩
end CA
