/-! both sides at once: run -/
section GQ
variable {sp : ox_E} {S V U : ox_St} {m x x0 L nc e y ce Tc Bn Kn Wn K P t mr sr : Nat} {xs : Nat → Int32} {α α' : Int → Nat} {C : Nat → xCd} {s s' : xSt} {b : Nat → Nat} {γ γ' : Int → Nat} {B B' : List Int} {R : ox_St → Nat → Nat → Prop}
theorem zzV.nn (h : zzV S x α C nc s e b y ce γ B Tc Bn Kn Wn K P) {n' : Nat} (hn : S.n ≤ n') : zzV (S.nn n') x α C nc s e b y ce γ B Tc Bn Kn Wn K P := by
  obtain ⟨⟨h1, h2⟩, ⟨h3, h4⟩, h5, h7, h8, h9, h10⟩ := h
  exact ⟨⟨h1.cJ (cJ_nn hn) h3.2.2.2.1.1, h2.ag h3.len oAg_nn⟩, ⟨h3, h4⟩, h5, h7, h8, h9, h10⟩
theorem z_run {w : Int32} (hV : zzV S x α C nc s e b y ce γ B Tc Bn Kn Wn K P) (hs : lw_scr x0 L xs S) (hx : x0 < x) (hL : zzL t nc e Bn Kn Wn K P) (t5 : t < 512) (b1 : 1171 * (512 - t) + 8 * e ≤ mr) (b2 : 9906 * (512 - t) + 400 * e ≤ sr) (hR : ∀ S' mr' sr', zzI x0 L xs x (t + 1) S' mr' sr' → R S' mr' sr') : lw_run (lw_E (ox_M lw_sp 1200)) (lw_scr x0 L xs) x (x + 76) (x + 118) w S mr sr R := by
  have hsp := lw_sp_mono
  obtain ⟨⟨⟨c1, -⟩, m0⟩, ⟨w1, w2⟩, ⟨h5, -⟩, h7, -, h9, h10⟩ := id hV
  have hf := w1.len
  have hn : x + 119 ≤ S.n := c1.1.2.2.2.1
  obtain ⟨l1, l2, l3, l4, l5, l6⟩ := id hL
  have kc : ∀ W, wM W (x + 76) ce γ B Tc C nc y s e b Bn Kn Wn → rKc W (x + 76) C nc := fun W h => h.2.1.kc (by omega)
  -- refused, with v
  have refused : ∀ (n' : Nat) (v : Int32), S.n ≤ n' → (v = 1 ∧ s.s ≠ 1) ∨ (v = 2 ∧ s.s = 1 ∧ (w < 1 ∨ ¬ w ≤ 200)) → ∃ v0 : Int32, (some (.inl v) : Option ox_V) = some (.inl v0) ∧ lw_scr x0 L xs (S.nn n') ∧ (S.nn n').K (x + 76) = 14 ∧ ∃ mc' ms', mc' ≤ mr - 401 ∧ ms' ≤ sr - 4006 ∧ lw_E (ox_M lw_sp 1200) 204 [.inr (.inr (x + 76)), .inl w] mc' ms' (S.nn n') (fun r' S2 => ∃ u, r' = some (.inl u) ∧ S2.K (x + 76) = 14 ∧ ∃ mc2 ms2, mc2 ≤ mr - 401 - mc' ∧ ms2 ≤ sr - 4006 - ms' ∧ lw_E (ox_M lw_sp 1200) 127 [.inr (.inr (x + 76))] mc2 ms2 S2 (fun r2 S3 => r2 = some (.inl v0) ∧ (v0 = 0 → S3.K (x + 118) = 16 ∧ 0 < S3.len (x + 118) ∧ S3.rJ (x + 118) 0 = u.toInt64) ∧ R S3 (mr - 401 - mc' - mc2) (sr - 4006 - ms' - ms2))) := by
    intro n' v hn' hv
    have hVn := hV.nn hn'
    have mN := hVn.1.2
    have sN : lw_scr x0 L xs (S.nn n') := hs
    have tail : ∀ u : Int32, ∃ u0 : Int32, (some (.inl u) : Option ox_V) = some (.inl u0) ∧ ((S.nn n').sI 69 (x + 76) v).K (x + 76) = 14 ∧ ∃ mc2 ms2, mc2 ≤ mr - 401 - 0 ∧ ms2 ≤ sr - 4006 - 0 ∧ lw_E (ox_M lw_sp 1200) 127 [.inr (.inr (x + 76))] mc2 ms2 ((S.nn n').sI 69 (x + 76) v) (fun r2 S3 => r2 = some (.inl v) ∧ (v = 0 → S3.K (x + 118) = 16 ∧ 0 < S3.len (x + 118) ∧ S3.rJ (x + 118) 0 = u0.toInt64) ∧ R S3 (mr - 401 - 0 - mc2) (sr - 4006 - 0 - ms2)) := fun u => by
      refine ⟨u, rfl, mN.1.1.1, 0, 0, Nat.zero_le _, Nat.zero_le _, p_E (by decide) (by decide) (s_127 (d := 1199) hsp mN.1.1.1 ?_)⟩
      rw [or_sI_I, if_pos ⟨rfl, rfl⟩]
      exact ⟨rfl, fun z => by rcases hv with q | q <;> (rw [q.1] at z; exact absurd z (by decide)), hR _ _ _ ⟨⟨scr_w sN hx (v := v) w41.refl, hx⟩, α, C, nc, s, e, b, y, ce, γ, B, Tc, Bn, Kn, Wn, K, P, hVn.q cQ.refl w41.refl, hL.up, by omega, by omega⟩⟩
    refine ⟨v, rfl, sN, mN.1.1.1, 0, 0, Nat.zero_le _, Nat.zero_le _, p_E (by decide) (by decide) ?_⟩
    refine r_204 (d := 1191) hsp (by omega) (P := P) (by omega) mN.1 w1 (kc _ mN) w2 (fun z => ?_) (fun z1 z2 => ?_) (fun z1 N n1 n2 ew => ?_)
    · rcases hv with ⟨q1, q2⟩ | ⟨q1, q2, -⟩
      · rw [q1] at tail
        rw [q1]
        exact tail 0
      · exact absurd q2 z
    · rcases hv with ⟨q1, q2⟩ | ⟨q1, q2, -⟩
      · exact absurd z1 q2
      · rw [q1] at tail
        rw [q1]
        exact tail 0
    · rcases hv with ⟨q1, q2⟩ | ⟨q1, q2, q3⟩
      · exact absurd z1 q2
      · exfalso
        rcases q3 with q | q
        · rw [ew] at q
          have := (nI_ltI (b := 1) (by omega) (by decide)).mp q
          omega
        · exact q (by rw [ew]; exact nI_le (b := 200) n2 (by decide))
  refine ⟨401, 4006, by omega, by omega, Or.inr (Or.inl ⟨rfl, ?_⟩)⟩
  refine c_237 (d := 1183) (K := K) (by omega) h9 h10 h5 c1 w1 (fun n' hn' z => refused n' 1 hn' (Or.inl ⟨rfl, z⟩)) (fun n' hn' z1 z2 => refused n' 2 hn' (Or.inr ⟨rfl, z1, z2⟩)) (fun N S' α' z1 ew n1 n2 cm i39 hRS => ?_)
  have nS : x + 119 ≤ S'.n := hRS.1.2.2.2.1
  have wf' := (xWork_wf N K s w1).up (K' := K + 200) (by omega)
  have po' := (xWork_pot N K P s w1 w2).up (P' := P + 21000) (by omega)
  have jV : cJ x S' (S'.wJ (x + 118) 0 (nI (xWork C N s).1).toInt64) := ⟨oKl_wJ, oAg_wJ (fun z => z.2 ⟨by omega, by omega⟩)⟩
  have hRV := jV.cR hRS wf'.2.2.2.1.1
  have fV : cSp x S (S'.wJ (x + 118) 0 (nI (xWork C N s).1).toInt64) := ⟨cm.1.trans oKl_wJ, (cm.2.1.sub (fun a ha => ⟨by omega, ha.2⟩)).trans (oAg_wJ (fun z => by have := z.1; omega))⟩
  have j0 : (S'.wJ (x + 118) 0 (nI (xWork C N s).1).toInt64).rJ (x + 118) 0 = (nI (xWork C N s).1).toInt64 := by rw [or_wJ_rJ, if_pos ⟨rfl, rfl⟩]
  have r36 : (S'.wJ (x + 118) 0 (nI (xWork C N s).1).toInt64).R 36 (x + 11) = S.R 36 (x + 11) := cm.2.2
  have i39' : (S'.wJ (x + 118) 0 (nI (xWork C N s).1).toInt64).I 39 (x + 11) = nI (y + (xWork C N s).1) := i39
  generalize S'.wJ (x + 118) 0 (nI (xWork C N s).1).toInt64 = V at jV hRV fV j0 r36 i39' ⊢
  have mV := m0.ag hf (fV.2.sub (fun a ha => ⟨by omega, fun z => by unfold cZ at z; omega⟩))
  have sV := scr_c hs hx fV
  refine ⟨0, rfl, sV, mV.1.1.1, 0, 0, Nat.zero_le _, Nat.zero_le _, p_E (by decide) (by decide) ?_⟩
  refine r_204 (d := 1191) hsp (by omega) (P := P) (by omega) mV.1 w1 (kc _ mV) w2 (fun z => absurd z1 z) (fun _ z => ?_) (fun _ N' n1' n2' ew' U ce' γ' B' T' g _ rU => ?_)
  · exfalso
    rw [ew] at z
    rcases z with z | z
    · have := (nI_ltI (b := 1) (by omega) (by decide)).mp z
      omega
    · have := (nI_ltI (a := 200) (by decide) (by omega)).mp z
      omega
  · have eN : N' = N := (nI_eq (by omega) (by omega)).mp (ew'.symm.trans ew)
    subst eN
    have k14 : U.K (x + 76) = 14 := rU.1.1
    have e69 : U.I 69 (x + 76) = 0 := by rw [g.2.2.2.2.2.2.2.2.2.1 69 (Or.inl rfl), or_sI_I, if_pos ⟨rfl, rfl⟩]
    have zU := hV.mv fV hRV r36 i39' g rU wf' po' (by omega) (by omega) (by omega)
    refine ⟨_, rfl, k14, 0, 0, Nat.zero_le _, Nat.zero_le _, p_E (by decide) (by decide) (s_127 (d := 1199) hsp k14 ?_)⟩
    rw [e69]
    refine ⟨rfl, fun _ => ⟨zU.2.2.2.2.2.1, by rw [zU.2.2.2.2.2.2]; decide, ?_⟩, hR _ _ _ ⟨⟨scr_m sV hx g, hx⟩, _, _, _, _, _, _, _, _, _, _, _, _, _, _, _, _, zU, ⟨by omega, by omega, by omega, by omega, by omega, by omega⟩, by omega, by omega⟩⟩
    rw [g.2.2.2.2.2.2.2.2.1 (x + 118) (Or.inr (by omega))]
    exact j0
end GQ
