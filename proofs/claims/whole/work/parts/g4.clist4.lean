/-! the class reads: the list's first array -/
section CL4
variable {sp : ox_E} {d mr sr : Nat} {S : ox_St} {Q : ox_Q} {a : Nat}
theorem s_220e (hsp : ox_mono sp) (ha : a < S.n) (hK : S.K a = 1) (hR : S.R 1 a = S.R 142 0) (kt : S.K (S.R 142 0) = 23) (lt : S.len (S.R 142 0) = 0) (hm : 1 ≤ mr) (hs : 10 ≤ sr) (hQ : Q (some (.inr (.inr S.n))) ((S.newA 20 10).sR 1 a S.n)) : ox_M sp (d + 1) 220 [.inr (.inr a), .inl 1] mr sr S Q := by
  refine f_220 hsp ?_
  unfold q_220
  rw [hR, kt, lt, hK]
  refine ⟨rfl, rfl, ?_⟩
  intro w1
  have ew : w1 = 0 := rfl
  clear_value w1
  subst ew
  refine ⟨fun z => absurd z (by decide), fun _ => ⟨rfl, fun _ => ⟨by decide, by decide, by decide, hm, ?_, ?_⟩, fun z => absurd rfl z⟩⟩
  · exact hs
  · refine ⟨?_, rfl, hQ⟩
    show ox_has ((S.newA 20 10).K a) 1 = true
    rw [or_newA_K, if_neg (by omega), hK]
    rfl
end CL4
