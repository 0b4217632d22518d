/-! the reference looks at a code: isRightAt -/
section OMRa
variable {sp : ox_E} {d mr sr : Nat} {S : ox_St} {Q : ox_Q} {m ce c g : Nat} {κ : oCd} {P : Nat → Option oHB} {W : Nat → Bool}
theorem s_168_118 (hsp : ox_mono sp) (h : mlS S m ce c g κ P W) {p hh b w a nx t : Nat} {x3 x6 : Int32} {wl wh : Nat → Nat} (hB : mlB S m p b wl wh) (hPp : P p = some (hh, blL wl wh b)) (h8 : S.I 138 m = nI w) (h9 : S.I 139 m = nI a) (h0 : S.I 140 m = nI nx) (hw : w < 2 ^ 31) (ha : a < 100000) (hnx : nx < 1000) (htk : tkW w a = some t) (hfl : t ≤ hh) (hh2 : hh ≤ 10) (hH : hh - t + gvW w a < 200000) (hj : jpW κ w a nx) (hn : nx < cdN κ → plW κ nx)
    (hQ1 : ∀ l, scN w a nx (hh - t + gvW w a) (hh, blL wl wh b) = some l → cmL κ l P → ∀ S', mlF m S S' → mlS S' m ce c g κ (upL l P) (upWL l P W) → Q (some (.inl 1)) S') (hQ0 : (∀ l, scN w a nx (hh - t + gvW w a) (hh, blL wl wh b) = some l → ¬ cmL κ l P) → ∀ S', mlF m S S' → Q (some (.inl 0)) S') : c_168_118 (ox_M sp (d + 2)) m (nI c) (nI p) x3 (nI hh) (nI b) x6 (nI (hh - t + gvW w a)) (nI (if w = 110 ∨ w = 93 then nx + a else a)) S mr sr Q := by
  have hE : ox_mono (ox_M sp (d + 2)) := ox_M_mono hsp _
  have hM := h.1
  have hb := hB.2.1
  have hPn : P p ≠ none := by rw [hPp]; exact fun z => by cases z
  -- one way
  have one : ∀ (K : ox_Q) (mc mk q H' b' : Nat), q < 1000000 → H' < 1000000 → b' ≤ b → (q < cdN κ → plW κ q) → scN w a nx (hh - t + gvW w a) (hh, blL wl wh b) = some [(q, H', blL wl wh b')] → (∀ S1, Q (some (.inl 1)) S1 → K (some (.inl 1)) S1) → (∀ S1, Q (some (.inl 0)) S1 → K (some (.inl 0)) S1) → ox_M sp (d + 2) 167 [.inr (.inr m), .inl (nI c), .inl (nI q), .inl (nI H'), .inl (nI p), .inl (nI b')] mc mk S K := by
    intro K mc mk q H' b' g1 g2 g3 g4 hsc hK1 hK0
    refine s_167c hsp h (hB.le g3) hPn g1 g2 g4 (fun c1 S' q1 q2 q3 _ => hK1 _ (hQ1 _ hsc ⟨c1, trivial⟩ S' q1 q3)) (fun c1 => hK0 _ (hQ0 (fun l hl hc => c1 ?_) S mlF.refl))
    rw [hsc] at hl
    rw [← Option.some.inj hl] at hc
    exact hc.1
  -- two ways
  have two : ∀ (K1 K2 : ox_Q) (mc mk mc2 mk2 q1 H1 q2 H2 : Nat), q1 < 1000000 → H1 < 1000000 → q2 < 1000000 → H2 < 1000000 → (q1 < cdN κ → plW κ q1) → (q2 < cdN κ → plW κ q2) → scN w a nx (hh - t + gvW w a) (hh, blL wl wh b) = some [(q1, H1, blL wl wh b), (q2, H2, blL wl wh b)] → (∀ S1, S1.K m = 14 → S1.I = S.I → ox_M sp (d + 2) 167 [.inr (.inr m), .inl (nI c), .inl (nI q2), .inl (nI H2), .inl (nI p), .inl (nI b)] mc2 mk2 S1 K2 → K1 (some (.inl 1)) S1) → (∀ S1, Q (some (.inl 0)) S1 → K1 (some (.inl 0)) S1) → (∀ S1, Q (some (.inl 1)) S1 → K2 (some (.inl 1)) S1) → (∀ S1, Q (some (.inl 0)) S1 → K2 (some (.inl 0)) S1) → ox_M sp (d + 2) 167 [.inr (.inr m), .inl (nI c), .inl (nI q1), .inl (nI H1), .inl (nI p), .inl (nI b)] mc mk S K1 := by
    intro K1 K2 mc mk mc2 mk2 q1 H1 q2 H2 g1 g2 g3 g4 g5 g6 hsc hK1 hK10 hK2 hK20
    refine s_167c hsp h hB hPn g1 g2 g5 (fun c1 S1 f1 i1 h1 k1 => hK1 S1 h1.1.1 i1 ?_) (fun c1 => hK10 _ (hQ0 (fun l hl hc => c1 ?_) S mlF.refl))
    · have hP1 : upS P q1 (H1, blL wl wh b) p ≠ none := by
        unfold upS
        by_cases e : p = q1
        · rw [if_pos e]; exact fun y => by cases y
        · rw [if_neg e]; exact hPn
      refine s_167c hsp h1 (hB.keep k1) hP1 g3 g4 g6 (fun c2 S2 f2 i2 h2 _ => hK2 _ (hQ1 _ hsc ⟨c1, c2, trivial⟩ S2 (f1.trans f2) h2)) (fun c2 => hK20 _ (hQ0 (fun l hl hc => c2 ?_) S1 f1))
      rw [hsc] at hl
      rw [← Option.some.inj hl] at hc
      exact hc.2.1
    · rw [hsc] at hl
      rw [← Option.some.inj hl] at hc
      exact hc.1
  refine f_168_118 hE ?_
  unfold q_168_118
  rw [hM.1, h8, h0, nI_toInt hw]
  refine ⟨rfl, fun z => ?_, fun z83 => ⟨fun z => ?_, fun z87 => ⟨fun z => ?_, fun z93 => ⟨fun z => ?_, fun z110 => ⟨fun z => ?_, fun z113 => ⟨fun z => ?_, fun z114 => ⟨fun z => ?_, fun z115 => ⟨fun z => ?_, fun z122 => ⟨fun z => ?_, fun z130 => ?_⟩⟩⟩⟩⟩⟩⟩⟩⟩
  · obtain rfl : w = 83 := by omega
    have hsc : scN 83 a nx (hh - t + gvW 83 a) (hh, blL wl wh b) = if blL wl wh b = [] then some [] else none := rfl
    refine ⟨fun y => f_168_218 hE ⟨Or.inl rfl, hQ0 (fun l hl => ?_) S mlF.refl⟩, fun y => f_168_218 hE ⟨Or.inr rfl, hQ1 [] ?_ trivial S mlF.refl h⟩⟩
    · have hb0 : b ≠ 0 := fun e => y (by rw [e]; rfl)
      obtain ⟨e, rfl⟩ : ∃ e, b = e + 1 := ⟨b - 1, by omega⟩
      rw [hsc, if_neg (fun g => by cases g)] at hl
      cases hl
    · have hb0 : b = 0 := (nI_eq (b := 0) (by omega) (by decide)).mp y
      rw [hsc, hb0]; rfl
  · obtain rfl : w = 87 := by omega
    refine ⟨fun y => f_168_249 hE (f_168_250 hE ⟨Or.inl rfl, hQ0 (fun l hl => ?_) S mlF.refl⟩), fun y => ⟨rfl, by decide, rfl, by decide, 0, 0, Nat.zero_le _, Nat.zero_le _, ?_⟩⟩
    · have hb0 : b = 0 := by have := (nI_leI (b := 0) (by omega) (by decide)).mp y; omega
      subst hb0
      cases hl
    · have hb0 : b ≠ 0 := fun e => y (by rw [e]; decide)
      obtain ⟨e, rfl⟩ : ∃ e, b = e + 1 := ⟨b - 1, by omega⟩
      rw [nI_pred]
      exact one _ _ _ nx _ e (by omega) (by omega) (by omega) hn rfl (fun S1 q => f_168_242 hE ⟨fun g => absurd g (by decide), fun _ => f_168_250 hE ⟨Or.inr rfl, q⟩⟩) (fun S1 q => f_168_242 hE ⟨fun _ => f_168_249 hE (f_168_250 hE ⟨Or.inl rfl, q⟩), fun g => absurd rfl g⟩)
  · obtain rfl : w = 93 := by omega
    have ht1 : 1 = t := Option.some.inj (show (some 1 : Option Nat) = some t from htk)
    subst ht1
    obtain ⟨o1, o2, o3, o4⟩ := h.2.1
    refine ⟨by decide, rfl, by decide, 0, 0, Nat.zero_le _, Nat.zero_le _, ?_⟩
    rw [if_pos (Or.inr rfl)]
    refine s_164 hsp hM h.2.1 (by omega) (fun pl => f_168_309 hE ⟨fun g => absurd g (by decide), fun _ => ?_⟩) (fun npl => f_168_309 hE ⟨fun _ => f_168_350 hE (f_168_351 hE ⟨Or.inl rfl, hQ0 (fun l hl hc => ?_) S mlF.refl⟩), fun g => absurd rfl g⟩)
    · rw [hM.1, h0]
      have e1 : nI hh - 1 = nI (hh - 1) := pk_sub (b := 1) hfl
      refine ⟨rfl, by decide, rfl, by decide, 0, 0, Nat.zero_le _, Nat.zero_le _, ?_⟩
      refine two _ (k_168_343 (ox_M sp (d + 2)) m (nI c) (nI p) x3 (nI hh) (nI b) x6 (nI (hh - 1 + gvW 93 a)) (nI (nx + a)) mr sr Q) _ _ 0 0 nx (hh - 1 + gvW 93 a) (nx + a) (hh - 1) (by omega) (by omega) (by omega) (by omega) hn (fun _ => pl) rfl (fun S1 k1 i1 q => f_168_326 hE ⟨fun g => absurd g (by decide), fun _ => ⟨by decide, k1, by decide, 0, 0, Nat.zero_le _, Nat.zero_le _, ?_⟩⟩) (fun S1 q => f_168_326 hE ⟨fun _ => f_168_350 hE (f_168_351 hE ⟨Or.inl rfl, q⟩), fun g => absurd rfl g⟩) (fun S1 q => f_168_343 hE ⟨fun g => absurd g (by decide), fun _ => f_168_351 hE ⟨Or.inr rfl, q⟩⟩) (fun S1 q => f_168_343 hE ⟨fun _ => f_168_350 hE (f_168_351 hE ⟨Or.inl rfl, q⟩), fun g => absurd rfl g⟩)
      rw [e1]
      exact q
    · have hl' : some [(nx, hh - 1 + gvW 93 a, blL wl wh b), (nx + a, hh - 1, blL wl wh b)] = some l := hl
      rw [← Option.some.inj hl'] at hc
      exact npl hc.2.1.1
  · obtain rfl : w = 110 := by omega
    refine f_168_251 hE ⟨by decide, hM.1, by decide, 0, 0, Nat.zero_le _, Nat.zero_le _, ?_⟩
    rw [if_pos (Or.inl rfl)]
    exact one _ _ _ (nx + a) _ b (by omega) (by omega) (Nat.le_refl b) (fun _ => hj.1 (Or.inl rfl)) rfl (fun S1 q => f_168_263 hE ⟨Or.inr rfl, q⟩) (fun S1 q => f_168_263 hE ⟨Or.inl rfl, q⟩)
  · obtain rfl : w = 113 := by omega
    refine f_168_251 hE ⟨by decide, hM.1, by decide, 0, 0, Nat.zero_le _, Nat.zero_le _, ?_⟩
    rw [if_neg (by decide)]
    exact one _ _ _ a _ b (by omega) (by omega) (Nat.le_refl b) (fun _ => hj.2 (Or.inl rfl)) rfl (fun S1 q => f_168_263 hE ⟨Or.inr rfl, q⟩) (fun S1 q => f_168_263 hE ⟨Or.inl rfl, q⟩)
  · obtain rfl : w = 114 := by omega
    rw [if_neg (by decide)]
    refine f_168_264 hE ⟨by rw [hM.1]; rfl, by decide, hM.1, by decide, 0, 0, Nat.zero_le _, Nat.zero_le _, ?_⟩
    rw [h0]
    exact two _ (k_168_293 (ox_M sp (d + 2)) m (nI c) (nI p) x3 (nI hh) (nI b) x6 (nI (hh - t + gvW 114 a)) (nI a) mr sr Q) _ _ 0 0 nx _ a _ (by omega) (by omega) (by omega) (by omega) hn (fun _ => hj.2 (Or.inr (Or.inl rfl))) rfl (fun S1 k1 i1 q => f_168_278 hE ⟨fun g => absurd g (by decide), fun _ => ⟨by decide, k1, by decide, 0, 0, Nat.zero_le _, Nat.zero_le _, q⟩⟩) (fun S1 q => f_168_278 hE ⟨fun _ => f_168_300 hE (f_168_301 hE ⟨Or.inl rfl, q⟩), fun g => absurd rfl g⟩) (fun S1 q => f_168_293 hE ⟨fun g => absurd g (by decide), fun _ => f_168_301 hE ⟨Or.inr rfl, q⟩⟩) (fun S1 q => f_168_293 hE ⟨fun _ => f_168_300 hE (f_168_301 hE ⟨Or.inl rfl, q⟩), fun g => absurd rfl g⟩)
  · obtain rfl : w = 115 := by omega
    rw [if_neg (by decide)]
    refine f_168_264 hE ⟨by rw [hM.1]; rfl, by decide, hM.1, by decide, 0, 0, Nat.zero_le _, Nat.zero_le _, ?_⟩
    rw [h0]
    exact two _ (k_168_293 (ox_M sp (d + 2)) m (nI c) (nI p) x3 (nI hh) (nI b) x6 (nI (hh - t + gvW 115 a)) (nI a) mr sr Q) _ _ 0 0 nx _ a _ (by omega) (by omega) (by omega) (by omega) hn (fun _ => hj.2 (Or.inr (Or.inr rfl))) rfl (fun S1 k1 i1 q => f_168_278 hE ⟨fun g => absurd g (by decide), fun _ => ⟨by decide, k1, by decide, 0, 0, Nat.zero_le _, Nat.zero_le _, q⟩⟩) (fun S1 q => f_168_278 hE ⟨fun _ => f_168_300 hE (f_168_301 hE ⟨Or.inl rfl, q⟩), fun g => absurd rfl g⟩) (fun S1 q => f_168_293 hE ⟨fun g => absurd g (by decide), fun _ => f_168_301 hE ⟨Or.inr rfl, q⟩⟩) (fun S1 q => f_168_293 hE ⟨fun _ => f_168_300 hE (f_168_301 hE ⟨Or.inl rfl, q⟩), fun g => absurd rfl g⟩)
  · obtain rfl : w = 122 := by omega
    have ht1 : 0 = t := Option.some.inj (show (some 0 : Option Nat) = some t from htk)
    subst ht1
    have hgv : hh - 0 + gvW 122 a = hh := rfl
    rw [hgv] at hQ1 hQ0
    have hsc : scN 122 a nx hh (hh, blL wl wh b) = if (blL wl wh b).length = 4 then none else some [(nx + a, hh + 1, blL wl wh b), (nx, hh, (hh, nx + a) :: blL wl wh b)] := rfl
    rw [blL_len] at hsc
    refine ⟨by decide, rfl, by decide, 0, 0, Nat.zero_le _, Nat.zero_le _, ?_⟩
    refine s_169 hsp h hB hPn (fun t ht => by rw [hPp] at ht; rw [← Option.some.inj ht]; exact blL_len wl wh b) h9 h0 hh2 ha hnx (hj.1 (Or.inr rfl)) hn (fun b4 c1 c2 S' q1 q2 => f_168_362 hE ⟨Or.inr rfl, hQ1 [(nx + a, hh + 1, blL wl wh b), (nx, hh, (hh, nx + a) :: blL wl wh b)] (by rw [hsc, if_neg b4]) ⟨c1, c2, trivial⟩ S' q1 q2⟩) (fun hne S' q1 => f_168_362 hE ⟨Or.inl rfl, hQ0 (fun l hl hc => ?_) S' q1⟩)
    rw [hsc] at hl
    by_cases e : b = 4
    · rw [if_pos e] at hl; cases hl
    · rw [if_neg e] at hl
      rw [← Option.some.inj hl] at hc
      exact hne e hc.1 hc.2.1
  · obtain rfl : w = 130 := by omega
    exact ⟨Or.inr rfl, hQ1 [] rfl trivial S mlF.refl h⟩
  · refine ⟨rfl, by decide, rfl, by decide, 0, 0, Nat.zero_le _, Nat.zero_le _, ?_⟩
    refine one _ _ _ nx _ b (by omega) (by omega) (Nat.le_refl b) hn ?_ (fun S1 q => f_168_377 hE ⟨Or.inr rfl, q⟩) (fun S1 q => f_168_377 hE ⟨Or.inl rfl, q⟩)
    unfold scN
    rw [if_neg (by omega), if_neg (by omega), if_neg (by omega), if_neg (by omega), if_neg (by omega), if_neg (by omega), if_neg (by omega), if_neg (by omega)]
end OMRa
