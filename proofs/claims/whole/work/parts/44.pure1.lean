/-! the law on a script of one call at most -/
theorem p1_pure {sp : ox_E} (hsp : ox_mono sp) {n bs t1 t2 L : Nat} {xs : Nat → Int32} (h1 : bs ≠ t1) (h2 : bs ≠ t2) (h3 : t1 ≠ t2) (hbs : bs + 1 < n) (hL : L ≤ 4) : ox_C (lw_E (ox_M sp 1200)) (some .boolean) lw_cx lw_cut (fun r _ => r = some (.inl 1)) 0 (ox_loc 7 [.inr (.inr (bs + 1))]) [] (lw_S0 n bs t1 t2 L xs) 600000 7290000 := by
  have hs0 : lw_scr (bs + 1) L xs (lw_S0 n bs t1 t2 L xs) := ⟨if_pos rfl, if_pos rfl, fun j _ => if_pos rfl⟩
  have hn : (lw_S0 n bs t1 t2 L xs).n = n := rfl
  generalize lw_S0 n bs t1 t2 L xs = S at hs0 hn
  have hb : 0 < S.n := by omega
  have hx : bs + 1 < S.n := by omega
  have hE : ox_mono (lw_E (ox_M sp 1200)) := lw_E_mono (ox_M_mono hsp _)
  refine lw_built hsp hb ?_
  have hs := p_scr hs0 hx oq_280
  have C := p_C hb
  obtain ⟨k1, k2, k3, k4, k5⟩ := p_T hb
  have hM := p_M hb
  by_cases h4 : L = 4
  · subst h4
    have hc : ∃ c : Nat, c < 16 ∧ xs 0 &&& 15 = nI c := pk_andE (xs 0) 4 (by decide)
    obtain ⟨c, hc, hw⟩ := hc
    refine lw_iter (i := 0) hE hs (by decide) (by decide) C.1 hc hw ?_
    refine p_turn hsp C k1 k2 k3 k4 k5 hM hs hx (T1 := ap S.n oq_297 S) (T2 := ap S.n oq_313 S) (fun Q hq => t_111 hsp hb hq) (fun n' Q hq => t_161 hsp hb hq) (ap_K rfl oq_297 (by decide +kernel)) (ap_K rfl oq_313 (by decide +kernel)) (ap_I (v := 1) rfl oq_313 (by decide +kernel)) (p_scr hs0 hx oq_313) (fun S' mr sr hS => ?_) (by decide) (by decide)
    exact lw_fin (i := 0 + 4) hE hS (by decide) (by decide) (by decide) rfl
  · exact lw_fin (i := 0) hE hs (by omega) (by omega) (by omega) rfl
