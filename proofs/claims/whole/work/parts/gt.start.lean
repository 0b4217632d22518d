/-! both sides at once: the start, all turns -/
section GT
variable {x x0 L : Nat} {xs : Nat → Int32}
def zC0 : Nat → xCd := fun _ => ((0, 0, 0, 0, (fun _ => 0), 0, 0), [], [])
def zs0 : xSt := ((fun _ => none), 16, [], [], 0, -1, 0)
theorem z_nm : ∀ i : Fin 7, lw_nm.getD i.val 0 = lN (xKn.getD i.val 0) := by decide
theorem z_cnt : oCnt oq_280 = 119 := by decide +kernel
theorem z_start {n bs t1 t2 : Nat} (h1 : bs ≠ t1) (h2 : bs ≠ t2) (h3 : t1 ≠ t2) (hbs : bs + 1 < n) (ht1 : t1 + 1 < n) (ht2 : t2 + 1 < n) : zzI (bs + 1) L xs n 0 (ap n oq_280 (lw_S0 n bs t1 t2 L xs)) 599881 5072243 := by
  have hs0 : lw_scr (bs + 1) L xs (lw_S0 n bs t1 t2 L xs) := ⟨if_pos rfl, if_pos rfl, fun j _ => if_pos rfl⟩
  have hn : (lw_S0 n bs t1 t2 L xs).n = n := rfl
  have k0 : (lw_S0 n bs t1 t2 L xs).K 0 = 0 := rfl
  have r142 : (lw_S0 n bs t1 t2 L xs).R 142 0 = t2 + 1 := rfl
  have r143 : (lw_S0 n bs t1 t2 L xs).R 143 0 = t1 + 1 := rfl
  have kt1 : (lw_S0 n bs t1 t2 L xs).K (t1 + 1) = 22 := (if_neg (by omega)).trans (if_pos rfl)
  have lt1 : (lw_S0 n bs t1 t2 L xs).len (t1 + 1) = 7 := (if_neg (by omega)).trans (if_pos rfl)
  have jt1 : ∀ j, (lw_S0 n bs t1 t2 L xs).rJ (t1 + 1) j = lw_nm.getD j 0 := fun j => if_pos rfl
  have kt2 : (lw_S0 n bs t1 t2 L xs).K (t2 + 1) = 23 := (if_neg (by omega)).trans ((if_neg (by omega)).trans (if_pos rfl))
  have lt2 : (lw_S0 n bs t1 t2 L xs).len (t2 + 1) = 0 := (if_neg (by omega)).trans (if_neg (by omega))
  generalize lw_S0 n bs t1 t2 L xs = S at hs0 hn k0 r142 r143 kt1 lt1 jt1 kt2 lt2
  subst hn
  have hb : 0 < S.n := by omega
  have hs := p_scr hs0 hbs oq_280
  obtain ⟨o1, o2, o3, o4, o5, o6, o7, o8, o9, o10⟩ := p_C hb
  obtain ⟨k1, k2, k3, k4, k5⟩ := p_T hb
  have nn : (ap S.n oq_280 S).n = S.n + 119 := by rw [ap_n rfl, z_cnt]
  have lo0 := ap_lo (S := S) (b := S.n) rfl hb oq_280
  have lo1 := ap_lo (S := S) (b := S.n) rfl ht1 oq_280
  have lo2 := ap_lo (S := S) (b := S.n) rfl ht2 oq_280
  have CL := p_CL hb
  have ML := p_ML hb
  have lk : (ap S.n oq_280 S).I 2 (S.n + 2) = nI 0 := ap_I (a := 2) (v := 0) rfl oq_280 (by decide +kernel)
  have lr : (ap S.n oq_280 S).R 1 (S.n + 2) = S.R 142 0 := ap_R (a := 2) (v := 1) rfl hb oq_280 (by decide +kernel)
  have mi : ∀ (F : Nat) (v : Int), oRI oq_280 F 76 = some v → (ap S.n oq_280 S).I F (S.n + 76) = Int32.ofInt v := fun F v h => ap_I (a := 76) rfl oq_280 h
  have m75 := mi 75 16 (by decide +kernel)
  have m106 := mi 106 0 (by decide +kernel)
  have m92 := mi 92 0 (by decide +kernel)
  have m93 := mi 93 0 (by decide +kernel)
  have m94 := mi 94 (-1) (by decide +kernel)
  have m95 := mi 95 0 (by decide +kernel)
  have m97 := mi 97 0 (by decide +kernel)
  have m76 := mi 76 0 (by decide +kernel)
  have m86 := mi 86 0 (by decide +kernel)
  have m87 := mi 87 0 (by decide +kernel)
  have m88 := mi 88 0 (by decide +kernel)
  have m72 := mi 72 0 (by decide +kernel)
  have m70 := mi 70 (-1) (by decide +kernel)
  have m96 := mi 96 (-1) (by decide +kernel)
  have ok : (ap S.n oq_280 S).K (S.n + 118) = 16 := ap_K rfl oq_280 (by decide +kernel)
  have ol : (ap S.n oq_280 S).len (S.n + 118) = 1 := ap_len rfl oq_280 (by decide +kernel)
  generalize ap S.n oq_280 S = V at *
  have bs0 : cBs V S.n := ⟨CL, hb, lo0.1.trans k0, by omega, by
    unfold cSn
    rw [lo0.2.2.2.1 143, r143, lo1.1, lo1.2.1]
    exact ⟨ht1, kt1, lt1, fun i hi => by rw [lo1.2.2.2.2.2.2.2 i, jt1]; exact z_nm ⟨i, hi⟩⟩⟩
  have c0 : cR V S.n (fun _ => 0) zC0 0 zs0 := by
    refine ⟨bs0, ⟨fun v o e => (by cases e), fun c hc => absurd hc (Nat.not_lt_zero _), fun u v hu => ?_, fun c hc => absurd hc (Nat.not_lt_zero _)⟩, trivial, ⟨o8, fun i hi => absurd hi (Nat.not_lt_zero _)⟩, o4, o5, o6, fun z => (by cases z), fun _ => o9⟩
    rcases hu with z | z
    · exfalso; have := z.1; omega
    · exact absurd rfl z
  have lx : oLx V S.n := ⟨0, fun _ => 0, CL.obj (o := 2) (k := 1) (by decide), lk, Nat.zero_le _, Or.inl ⟨rfl, by rw [lr, lo0.2.2.2.1 142], by rw [lo0.2.2.2.1 142, r142]; omega, by rw [lo0.2.2.2.1 142, r142, lo2.1]; exact kt2, by rw [lo0.2.2.2.1 142, r142, lo2.2.1]; exact lt2⟩⟩
  have r0 : rR V (S.n + 76) 2 (fun _ => 0) [] 16 zC0 0 0 zs0 := ⟨ML, ⟨⟨⟨List.nodup_nil, fun v hv => (by cases hv)⟩, fun v hv => (by cases hv), fun u hu => (by cases hu), Nat.le_refl _, by decide⟩, m75⟩, ⟨by decide, fun c hc => absurd hc (Nat.not_lt_zero _)⟩, trivial, ⟨m106, fun i hi => absurd hi (Nat.not_lt_zero _)⟩, ⟨m92, m93, m94, m95, m97⟩, ⟨fun c hc => absurd hc (Nat.not_lt_zero _), fun g hg => (by cases hg)⟩, Or.inl (by decide), fun g hg => (by cases hg)⟩
  have w0 : xWf zC0 0 0 zs0 := ⟨⟨Int.le_refl _, fun v o e => (by cases e)⟩, fun c hc => absurd hc (Nat.not_lt_zero _), ⟨Nat.zero_le _, fun g hg => (by cases hg)⟩, ⟨Nat.zero_le _, trivial⟩, ⟨fun z => (by cases z), fun z => absurd rfl z⟩, Or.inl ⟨by decide, by decide⟩, Nat.zero_le _, fun _ => rfl, fun _ => rfl, fun z => (by cases z)⟩
  have p0 : xPot zC0 0 0 zs0.H zs0.G zs0.f zs0.r := ⟨[], 0, ⟨List.nodup_nil, fun v hv => (by cases hv)⟩, ⟨fun c hc => absurd hc (Nat.not_lt_zero _), fun g hg => (by cases hg)⟩, Or.inl (by decide), trivial, Nat.le_refl _⟩
  refine ⟨⟨hs, hbs⟩, (fun _ => 0), zC0, 0, zs0, 0, (fun _ => 0), 0, 2, (fun _ => 0), [], 16, 0, 0, 0, 0, 0, ⟨⟨⟨c0, k4, fun i hi => absurd hi (Nat.not_lt_zero _), lx⟩, ⟨r0, ⟨⟨m76, m86, m87, m88⟩, fun c hc => absurd hc (Nat.not_lt_zero _), fun i hi => absurd hi (Nat.not_lt_zero _)⟩, m72, fun i hi => absurd hi (Nat.not_lt_zero _)⟩⟩, ⟨w0, p0⟩, ⟨o7, o10.trans m70.symm⟩, Or.inl ⟨k5, m96⟩, ⟨Nat.zero_le _, fun i hi => absurd hi (Nat.not_lt_zero _)⟩, ok, ol⟩, ⟨by decide, by decide, by decide, by decide, by decide, by decide⟩, by decide, by decide⟩
/-- one turn, whatever it is -/
theorem z_turn (hg : adH lw_sp) {t mr sr c : Nat} {S : ox_St} {w1 w2 w3 : Int32} {R : ox_St → Nat → Nat → Prop} (hI : zzI x0 L xs x t S mr sr) (t5 : t < 512) (hR : ∀ S' mr' sr', zzI x0 L xs x (t + 1) S' mr' sr' → R S' mr' sr') : lw_turn (lw_E (ox_M lw_sp 1200)) (lw_scr x0 L xs) x (x + 76) (x + 118) c w1 w2 w3 S mr sr R := by
  have hsp := lw_sp_mono
  obtain ⟨⟨hs, hx⟩, α, C, nc, s, e, b, y, ce, γ, B, T, Bn, Kn, Wn, K, P, hV, hL, b1, b2⟩ := hI
  exact ⟨fun _ => z_feed hsp hV hs hx hL t5 b1 b2 hR, fun _ => z_read hsp hg hV hs hx hL t5 b1 b2 hR, fun _ => z_fault hsp hV hs hx hL b1 b2 hR, fun _ => z_run hV hs hx hL t5 b1 b2 hR, fun _ => z_again hsp hV hs hx hL t5 b1 b2 hR, fun _ => z_about hsp hV hs hx hL b1 b2 hR, fun _ => z_result hsp hV hs hx hL b1 b2 hR, fun _ => z_stack hsp hV hs hx hL b1 b2 hR, fun _ => z_local hsp hV hs hx hL b1 b2 hR, fun _ => z_global hsp hV hs hx hL b1 b2 hR, fun _ => hR _ _ _ ⟨⟨hs, hx⟩, α, C, nc, s, e, b, y, ce, γ, B, T, Bn, Kn, Wn, K, P, hV, hL.up, by omega, by omega⟩⟩
theorem z_loop (hg : adH lw_sp) (hL : L ≤ 2048) : ∀ (r t mr sr : Nat) (S : ox_St), t + r = 512 → 4 * t ≤ L → zzI x0 L xs x t S mr sr → c_238_23 (lw_E (ox_M lw_sp 1200)) x0 x (x + 76) (x + 118) (nI (4 * t)) S mr sr (fun r _ => r = some (.inl 1)) := by
  have hE : ox_mono (lw_E (ox_M lw_sp 1200)) := lw_E_mono (ox_M_mono lw_sp_mono _)
  intro r
  induction r with
  | zero =>
    intro t mr sr S ht hi hI
    exact lw_fin (i := 4 * t) hE hI.1.1 hL hi (by omega) rfl
  | succ r ih =>
    intro t mr sr S ht hi hI
    by_cases h4 : 4 * t + 4 ≤ L
    · obtain ⟨c, hc, hw⟩ : ∃ c : Nat, c < 16 ∧ xs (4 * t) &&& 15 = nI c := pk_andE (xs (4 * t)) 4 (by decide)
      have k13 : S.K x = 13 := by
        obtain ⟨-, α, C, nc, s, e, b, y, ce, γ, B, T, Bn, Kn, Wn, K, P, hV, -⟩ := id hI
        exact hV.1.1.1.1.1.obj (o := 0) (k := 13) (by decide)
      refine lw_iter (i := 4 * t) hE hI.1.1 hL h4 k13 hc hw (z_turn hg hI (by omega) (fun S' mr' sr' h => ?_))
      exact ih (t + 1) mr' sr' S' (by omega) (by omega) h
    · exact lw_fin (i := 4 * t) hE hI.1.1 hL hi (by omega) rfl
theorem z_pure (hg : adH lw_sp) : lw_pure := by
  refine ⟨lw_sp, lw_sp_mono, lw_sp_ok, fun n bs t1 t2 L xs h1 h2 h3 hbs ht1 ht2 hL => ?_⟩
  have hn : (lw_S0 n bs t1 t2 L xs).n = n := rfl
  have hb : 0 < (lw_S0 n bs t1 t2 L xs).n := by omega
  have st := z_start (L := L) (xs := xs) h1 h2 h3 hbs ht1 ht2
  refine lw_built lw_sp_mono hb ?_
  exact z_loop (x := n) hg hL 512 0 599881 5072243 _ rfl (Nat.zero_le _) st
end GT
