/-! the class's Looker: passes -/
theorem lkF_sR {x v : Nat} {S : ox_St} : lkF x S (S.sR 29 (x + 3) v) := ⟨rfl, rfl, rfl, rfl, rfl, rfl, fun F a q => ox_u2_ne (fun e => by omega), fun _ _ _ => rfl, fun _ _ => rfl⟩
section OPA
variable {sp : ox_E} {d mr sr : Nat} {S : ox_St} {Q : ox_Q} {x c : Nat} {κ : oCd}
theorem s_30_28 {S0 : ox_St} (hsp : ox_mono sp) (hQ1 : ∀ S', lkF x S0 S' → (∃ T, okT κ T) → Q (some (.inl 1)) S') (hQ0 : ∀ S', lkF x S0 S' → ¬ (∃ T, okT κ T) → Q (some (.inl 0)) S') : ∀ (r i : Nat) (S : ox_St) (P : Nat → Option oHB) (n : Nat) (f : Nat → Nat), i + r = 80 → lkF x S0 S → (S.R 10 c < x + 4 ∨ x + 10 < S.R 10 c) → lkS S x c κ P n f → P 0 = some (0, []) → (∀ p s, P p = some s → plW κ p ∧ s.1 ≤ cdM κ) → (∀ T, okT κ T → tbL P T) → i ≤ n → (∀ j, j < i → ∀ s, P (f j) = some s → agW κ (dcW κ (f j)) (dcA κ (f j)) ∧ ∃ l, scW (dcW κ (f j)) (dcA κ (f j)) (dcN κ (f j)) s = some l ∧ ∀ q ∈ l, P q.1 = some q.2) → c_30_28 (ox_M sp (d + 5)) (x + 3) c 1 (nI i) S mr sr Q := by
  have hE : ox_mono (ox_M sp (d + 5)) := ox_M_mono hsp _
  have all : ∀ (i : Nat) (S : ox_St) (P : Nat → Option oHB) (n : Nat) (f : Nat → Nat), lkS S x c κ P n f → P 0 = some (0, []) → (∀ p s, P p = some s → plW κ p ∧ s.1 ≤ cdM κ) → n ≤ i → (∀ j, j < i → ∀ s, P (f j) = some s → agW κ (dcW κ (f j)) (dcA κ (f j)) ∧ ∃ l, scW (dcW κ (f j)) (dcA κ (f j)) (dcN κ (f j)) s = some l ∧ ∀ q ∈ l, P q.1 = some q.2) → okT κ P := by
    intro i S P n f h h0 hpl hn hd
    refine ⟨h0, fun p s hp => ?_⟩
    obtain ⟨j, j1, j2⟩ := h.2.2.2.2.2.2.2.2.1 p (by rw [hp]; exact fun z => by cases z)
    subst j2
    obtain ⟨g1, l, g2, g3⟩ := hd j (by omega) s hp
    exact ⟨(hpl _ _ hp).1, (hpl _ _ hp).2, g1, l, g2, g3⟩
  intro r
  induction r with
  | zero =>
    intro i S P n f hi t0 ht h h0 hpl hT hin hd
    have k3 := h.1.obj (o := 3) (k := 6) (by decide)
    have hn80 : n ≤ 80 := by have := cntP_le P 80; have := h.2.2.2.2.2.2.2.1; omega
    refine f_30_28 hE ⟨fun z => absurd z (by decide), fun _ => ⟨by rw [k3]; rfl, fun _ => ⟨Or.inr rfl, hQ1 S t0 ⟨P, all i S P n f h h0 hpl (by omega) hd⟩⟩, fun z => absurd ?_ z⟩⟩
    rw [h.2.2.2.2.2.1]
    exact nI_le (by omega) (by omega)
  | succ r ih =>
    intro i S P n f hi t0 ht h h0 hpl hT hin hd
    have k3 := h.1.obj (o := 3) (k := 6) (by decide)
    have kc := h.2.2.1.1
    have h28 := h.2.2.2.2.2.1
    have hn80 : n ≤ 80 := by have := cntP_le P 80; have := h.2.2.2.2.2.2.2.1; omega
    have R27 : S.R 27 (x + 3) = x + 8 := h.1.ref (by decide)
    obtain ⟨a1, a2⟩ := h.1.row (o := 8) (k := 15) (n := 80) (by decide)
    refine f_30_28 hE ?_
    unfold q_30_28
    rw [k3, h28, R27, a1, a2, nI_clamp (n := i) (by omega)]
    refine ⟨fun z => absurd z (by decide), fun _ => ⟨rfl, fun z => ⟨Or.inr rfl, hQ1 S t0 ⟨P, all i S P n f h h0 hpl ((nI_leI (by omega) (by omega)).mp z) hd⟩⟩, fun z => ⟨fun y => absurd y (nI_ge (b := 80) (by omega) (by decide)), fun _ => ⟨rfl, rfl, vp_in_nI (by omega) (by decide), by decide, rfl, by decide, 0, 0, Nat.zero_le _, Nat.zero_le _, ?_⟩⟩⟩⟩
    have hlt : i < n := Nat.not_le.mp fun e => z (nI_le e (by omega))
    rw [h.2.2.2.2.2.2.1 i hlt]
    cases hPi : P (f i) with
    | none => exact absurd hPi (h.2.2.2.2.2.2.2.2.2 i hlt)
    | some s =>
      refine s_31 hsp h ht hPi (fun l ag hsc hcm S' n' f' q1 q2 q3 q4 => f_30_56 hE ?_) (fun hn S' q1 => f_30_56 hE ?_)
      · show c_30_28 (ox_M sp (d + 5)) (x + 3) c 1 (nI i + 1) S' mr sr Q
        rw [nI_1]
        have hle := cmL_le l P hcm
        refine ih (i + 1) S' (upL l P) n' f' (by omega) (t0.trans q1) (by rw [q1.code k3 kc]; exact ht) q2 (hle _ _ h0) (cmL_pl l P hcm hpl) (fun T hT2 => ?_) (by omega) (fun j hj s' hs' => ?_)
        · obtain ⟨-, -, -, l', e1, e2⟩ := hT2.2 _ _ (hT T hT2 _ _ hPi)
          rw [hsc] at e1
          obtain rfl := Option.some.inj e1
          exact (cmL_of hT2 l P (hT T hT2) e2).2
        · rw [q4 j (by omega)] at hs' ⊢
          by_cases hji : j = i
          · subst hji
            rw [hle _ _ hPi] at hs'
            obtain rfl := Option.some.inj hs'
            exact ⟨ag, l, hsc, cmL_at l P hcm⟩
          · cases hPj : P (f j) with
            | none => exact absurd hPj (h.2.2.2.2.2.2.2.2.2 j (by omega))
            | some s0 =>
              rw [hle _ _ hPj] at hs'
              obtain rfl := Option.some.inj hs'
              obtain ⟨g1, l0, g2, g3⟩ := hd j (by omega) s0 hPj
              exact ⟨g1, l0, g2, fun q hq => hle _ _ (g3 q hq)⟩
      · show c_30_28 (ox_M sp (d + 5)) (x + 3) c 0 (nI i + 1) S' mr sr Q
        refine f_30_28 hE ⟨fun _ => ⟨Or.inl rfl, hQ0 S' (t0.trans q1) (fun g => ?_)⟩, fun z => absurd rfl z⟩
        obtain ⟨T, hT2⟩ := g
        obtain ⟨-, -, g1, l, e1, e2⟩ := hT2.2 _ _ (hT T hT2 _ _ hPi)
        exact hn l g1 e1 (cmL_of hT2 l P (hT T hT2) e2).1
/-- passes: whether there is a table -/
theorem s_30 (hsp : ox_mono sp) (hC : oCL S x) (hsh : cSh S c κ) (ht : S.R 10 c < x + 4 ∨ x + 10 < S.R 10 c) (hQ1 : ∀ S', lkF x S S' → (∃ T, okT κ T) → Q (some (.inl 1)) S') (hQ0 : ∀ S', lkF x S S' → ¬ (∃ T, okT κ T) → Q (some (.inl 0)) S') : ox_M sp (d + 6) 30 [.inr (.inr (x + 3)), .inr (.inr c)] mr sr S Q := by
  have hE : ox_mono (ox_M sp (d + 5)) := ox_M_mono hsp _
  have k3 := hC.obj (o := 3) (k := 6) (by decide)
  have R23 : S.R 23 (x + 3) = x + 4 := hC.ref (by decide)
  obtain ⟨a1, a2⟩ := hC.row (o := 4) (k := 15) (n := 80) (by decide)
  have g1 : lkF x S ((S.sR 29 (x + 3) c).sI 28 (x + 3) 0) := lkF_sR.trans (lkF_sI (Or.inl rfl))
  have hr23 : ((S.sR 29 (x + 3) c).sI 28 (x + 3) 0).R 23 (x + 3) = x + 4 := (hC.lk g1).ref (by decide)
  have hO : cdO κ := hsh.2.2.2.2.2
  refine f_30 hsp ⟨by rw [k3]; rfl, by show ox_has (S.K (x + 3)) 28 = true; rw [k3]; rfl, by show ox_has (S.K (x + 3)) 23 = true; rw [k3]; rfl, by decide, by decide, 0, 0, Nat.zero_le _, Nat.zero_le _, ?_⟩
  show ox_M sp (d + 5) 228 [.inr (.inr (((S.sR 29 (x + 3) c).sI 28 (x + 3) 0).R 23 (x + 3))), .inl (-1)] 0 0 ((S.sR 29 (x + 3) c).sI 28 (x + 3) 0) _
  rw [hr23]
  refine s_228 hsp (N := 80) (by decide) a1 a2 (fun S2 b2 z2 => f_30_18 hE ?_)
  obtain ⟨p1, p2, p3, p4, p5, p6, p7, p8, p9⟩ := b2
  have g2 : lkF x S S2 := by
    refine g1.trans ⟨p2, p3, p4, p7, p8, p9, fun F a _ => by rw [p6], fun F a _ => by rw [p5], fun a q => ?_⟩
    obtain ⟨-, -, -, -, -, e6, -⟩ := p1 a (by omega)
    exact funext e6
  have hC2 := hC.lk g2
  have k32 := hC2.obj (o := 3) (k := 6) (by decide)
  have hs2 := hsh.lk g2 k3 ht
  have ht2 : S2.R 10 c < x + 4 ∨ x + 10 < S2.R 10 c := by rw [g2.code k3 hsh.1]; exact ht
  have h2 : lkS S2 x c κ (fun _ => none) 0 (fun _ => 0) := by
    refine ⟨hC2, ?_, hs2, fun s hs => z2 s hs, fun p hp => absurd rfl hp, ?_, fun i hi => absurd hi (Nat.not_lt_zero i), ?_, fun p hp => absurd rfl hp, fun i hi => absurd hi (Nat.not_lt_zero i)⟩
    · rw [p6]; exact if_pos ⟨rfl, rfl⟩
    · rw [p5]; exact if_pos ⟨rfl, rfl⟩
    · have : ∀ m, cntP (fun _ => none) m = 0 := fun m => by
        induction m with
        | zero => rfl
        | succ m ih => show cntP (fun _ => none) m + 0 = 0; rw [ih]
      exact (this 80).symm
  have hpl0 : plW κ 0 := ⟨by have := hO.2.2.2.2.1.1; omega, rfl, fun z => absurd z (by decide)⟩
  refine ⟨by decide, k32, by decide, 0, 0, Nat.zero_le _, Nat.zero_le _, ?_⟩
  refine s_35 (p := 0) (hh := 0) (b := 0) (wl := fun _ => 0) (wh := fun _ => 0) hsp h2 ht2 ⟨by decide, fun i hi => absurd hi (Nat.not_lt_zero i)⟩ (by decide) (by decide) (fun y1 y2 y3 S3 n3 f3 q1 q2 q3 q4 _ _ _ _ => f_30_25 hE ?_) (fun y => absurd ⟨hpl0, Nat.zero_le _, Or.inl rfl⟩ y)
  have hup : ∀ p s, upS (fun _ => none) 0 ((0, []) : oHB) p = some s → p = 0 ∧ s = (0, []) := fun p s hp => by
    unfold upS at hp
    by_cases e : p = 0
    · rw [if_pos e] at hp; exact ⟨e, (Option.some.inj hp).symm⟩
    · rw [if_neg e] at hp; cases hp
  show c_30_28 (ox_M sp (d + 5)) (x + 3) c 1 (nI 0) S3 mr sr Q
  refine s_30_28 hsp hQ1 hQ0 80 0 S3 _ n3 f3 rfl (g2.trans q1) (by rw [q1.code k32 hs2.1]; exact ht2) q2 (upS_at _ 0 _) (fun p s hp => ?_) (fun T hT p s hp => ?_) (Nat.zero_le _) (fun j hj => absurd hj (Nat.not_lt_zero j))
  · obtain ⟨rfl, rfl⟩ := hup p s hp
    exact ⟨hpl0, Nat.zero_le _⟩
  · obtain ⟨rfl, rfl⟩ := hup p s hp
    exact hT.1
end OPA
