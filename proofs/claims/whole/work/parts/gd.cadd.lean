/-! the class reads: a code is added, whatever the list's row -/
/-- the list grows -/
def adH (sp : ox_E) : Prop := ∀ (d mr sr : Nat) (S : ox_St) (Q : ox_Q) (a t n c : Nat), a < S.n → c < S.n → t < S.n → S.K a = 1 → S.R 1 a = t → S.I 2 a = nI n → S.K t = 20 → S.len t = n → 10 ≤ n → n ≤ 100 → (∀ j, j < n → S.K (S.rR t j) = 3 ∧ S.rR t j < S.n) → S.K c = 3 → 1 ≤ mr → 150 ≤ sr → (∀ S' N, adF a S.n S S' → S'.n = S.n + 1 → S'.R 1 a = S.n → S'.K S.n = 20 → S'.len S.n = N → n < N → N ≤ 150 → S'.I 2 a = nI (n + 1) → (∀ j, j < n → S'.rR S.n j = S.rR t j) → S'.rR S.n n = c → Q (some (.inl 1)) S') → ox_M sp (d + 8) 226 [.inr (.inr a), .inr (.inr c)] mr sr S Q
section CAd
variable {sp : ox_E} {d mr sr : Nat} {Q : ox_Q} {x n c t : Nat} {S S' : ox_St} {A : Nat → Nat}
theorem adF.pv (h : adF (x + 2) t S S') (ht : S.K t = 20 ∨ S.n ≤ t) (hx : x + 2 < S.n) : prV x S S' ∧ ∀ F, S'.I F x = S.I F x := by
  obtain ⟨h1, h2, h3, h4, h5, h6, h7⟩ := h
  refine ⟨⟨h2, h1, fun a ha => ?_, fun F _ _ => h3 F x (by omega) (Or.inl (by omega)), fun F => h4 F x (by omega) (Or.inl (by omega)), fun F f0 f2 => h3 F (x + 2) hx (Or.inr ⟨f0, f2⟩), fun F f1 => h4 F (x + 2) hx (Or.inr f1)⟩, fun F => h3 F x (by omega) (Or.inl (by omega))⟩
  obtain ⟨a1, a2, a3, a4⟩ := ha
  have ne : a ≠ t := fun z => by
    rcases ht with y | y
    · rw [← z] at y; exact a4 y
    · omega
  exact ⟨(h1 a a1).1, (h1 a a1).2, fun F => h3 F a a1 (Or.inl a3), fun F => h4 F a a1 (Or.inl a3), fun F => h5 F a a1, fun j => congrFun (h6 a a1).1 j, fun j => congrFun (h7 a a1 ne) j, fun j => congrFun (h6 a a1).2 j⟩
theorem c_226 (hsp : ox_mono sp) (hg : adH sp) (ls : oLs S (x + 2) n A) (hx : x + 119 ≤ S.n) (hn : n ≤ 99) (kA : ∀ j, j < n → S.K (A j) = 3 ∧ A j < S.n) (hc : c < S.n) (kc : S.K c = 3) (hm : 1 ≤ mr) (hs : 150 ≤ sr) (hQ : ∀ S', prV x S S' → (∀ F, S'.I F x = S.I F x) → oLs S' (x + 2) (n + 1) (fun j => if j = n then c else A j) → Q (some (.inl 1)) S') : ox_M sp (d + 8) 226 [.inr (.inr (x + 2)), .inr (.inr c)] mr sr S Q := by
  obtain ⟨l1, l2, l3, l4⟩ := ls
  rcases l4 with ⟨z1, z2, z3, z4, z5⟩ | ⟨z1, z2, z3, z4, z5⟩
  · refine s_226e (d := d + 4) hsp (by omega) hc l1 z2 z4 z5 (by rw [l2, z1]) kc hm (by omega) (fun S' a1 a2 a3 a4 a5 a6 a7 => ?_)
    obtain ⟨v1, v2⟩ := a1.pv (Or.inr (Nat.le_refl _)) (by omega)
    refine hQ S' v1 v2 ⟨(v1.2.1 _ (by omega)).1.trans l1, by rw [a6, z1], by omega, Or.inr ⟨by rw [a3]; exact a4, by rw [a3, a2]; omega, by rw [a3, a5]; omega, by rw [a3, a5]; omega, fun j hj => ?_⟩⟩
    have hj0 : j = 0 := by omega
    rw [a3, hj0]
    show S'.rR S.n 0 = if 0 = n then c else A 0
    rw [if_pos z1.symm]
    exact a7
  · by_cases y : n < S.len (S.R 1 (x + 2))
    · refine s_226r (d := d + 6) hsp l1 rfl l2 z1 rfl y (by omega) kc (fun S' a1 a2 a3 a4 a5 => ?_)
      obtain ⟨v1, v2⟩ := a1.pv (Or.inl z1) (by omega)
      refine hQ S' v1 v2 ⟨(v1.2.1 _ (by omega)).1.trans l1, a4, by omega, Or.inr ?_⟩
      rw [a3, (v1.2.1 _ z2).1, (v1.2.1 _ z2).2]
      refine ⟨z1, by omega, by omega, z4, fun j hj => ?_⟩
      rw [a5]
      show _ = if j = n then c else A j
      by_cases w : j = n
      · rw [if_pos w, if_pos w]
      · rw [if_neg w, if_neg w]; exact z5 j (by omega)
    · have en : S.len (S.R 1 (x + 2)) = n := by omega
      refine hg d mr sr S Q (x + 2) _ n c (by omega) hc z2 l1 rfl l2 z1 en (by omega) (by omega) (fun j hj => by rw [z5 j hj]; exact kA j hj) kc hm hs (fun S' N a1 a2 a3 a4 a5 a6 a7 a8 a9 a10 => ?_)
      obtain ⟨v1, v2⟩ := a1.pv (Or.inr (Nat.le_refl _)) (by omega)
      refine hQ S' v1 v2 ⟨(v1.2.1 _ (by omega)).1.trans l1, a8, by omega, Or.inr ⟨by rw [a3]; exact a4, by rw [a3, a2]; omega, by rw [a3, a5]; omega, by rw [a3, a5]; omega, fun j hj => ?_⟩⟩
      rw [a3]
      show _ = if j = n then c else A j
      by_cases w : j = n
      · rw [if_pos w, w]; exact a10
      · rw [if_neg w, a9 j (by omega)]; exact z5 j (by omega)
end CAd
