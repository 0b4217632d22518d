/-! the class's Looker: goOn, lookAt, passes -/
theorem cdB_lt {κ : oCd} (h : cdO κ) (p : Nat) : cdB κ p < 256 := by
  by_cases e : p < cdN κ
  · exact h.2.2.2.2.2.1 p e
  · rw [h.2.2.2.2.2.2.1 p (by omega)]; decide
theorem gvW_le {κ : oCd} {w a : Nat} (h : agW κ w a) : gvW w a ≤ 10 := by
  unfold gvW
  by_cases e1 : w = 1 ∨ w = 83 ∨ w = 90 ∨ w = 125 ∨ w = 130 ∨ w = 110 ∨ w = 113 ∨ w = 114 ∨ w = 115 ∨ w = 122 ∨ w = 87
  · rw [if_pos e1]; decide
  · rw [if_neg e1]
    by_cases e2 : w = 2 ∨ w = 4 ∨ w = 93
    · rw [if_pos e2]; decide
    · rw [if_neg e2]
      by_cases e3 : w = 3
      · rw [if_pos e3]; decide
      · rw [if_neg e3]
        by_cases e4 : w = 92
        · rw [if_pos e4]; exact h.2.2.2.1 (Or.inr e4)
        · rw [if_neg e4]; decide
theorem nI_mix {h g t : Nat} (ht : t ≤ h) : nI h + (nI g - nI t) = nI (h - t + g) := by
  rw [← nI_add (h - t) g, ← pk_sub ht, Int32.sub_eq_add_neg, Int32.sub_eq_add_neg, Int32.add_assoc, Int32.add_comm (nI g)]
theorem lkW.le {S : ox_St} {x b b' : Nat} {wl wh : Nat → Nat} (h : lkW S x b wl wh) (hb : b' ≤ b) : lkW S x b' wl wh := ⟨by have := h.1; omega, fun i hi => h.2 i (by omega)⟩
theorem lkW.keep {S S' : ox_St} {x b : Nat} {wl wh : Nat → Nat} (h : lkW S x b wl wh) (h9 : S'.rI (x + 9) = S.rI (x + 9)) (h10 : S'.rI (x + 10) = S.rI (x + 10)) : lkW S' x b wl wh := ⟨h.1, fun i hi => by rw [h9, h10]; exact h.2 i hi⟩
section OPS
variable {sp : ox_E} {d mr sr : Nat} {S : ox_St} {Q : ox_Q} {x c n : Nat} {κ : oCd} {P : Nat → Option oHB} {f : Nat → Nat}
/-- goOn -/
theorem s_33 (hsp : ox_mono sp) (h : lkS S x c κ P n f) (ht : S.R 10 c < x + 4 ∨ x + 10 < S.R 10 c) {w a nx hh b t : Nat} {wl wh : Nat → Nat} (hW : lkW S x b wl wh) (hw : w < 2 ^ 31) (ha : a < 100000) (hnx : nx < 1000) (htk : tkW w a = some t) (hfl : t ≤ hh) (hh2 : hh ≤ 10) (hH : hh - t + gvW w a < 200000) (h32 : S.I 32 (x + 3) = nI (hh - t + gvW w a)) (h33 : S.I 33 (x + 3) = nI b)
    (hQ1 : ∀ l, scR w a nx (hh - t + gvW w a) (hh, blL wl wh b) = some l → cmL κ l P → ∀ S' n' f', lkF x S S' → lkS S' x c κ (upL l P) n' f' → n ≤ n' → (∀ i, i < n → f' i = f i) → Q (some (.inl 1)) S') (hQ0 : (∀ l, scR w a nx (hh - t + gvW w a) (hh, blL wl wh b) = some l → ¬ cmL κ l P) → ∀ S', lkF x S S' → Q (some (.inl 0)) S') : ox_M sp (d + 4) 33 [.inr (.inr (x + 3)), .inl (nI w), .inl (nI a), .inl (nI nx)] mr sr S Q := by
  have hE : ox_mono (ox_M sp (d + 3)) := ox_M_mono hsp _
  have k3 := h.1.obj (o := 3) (k := 6) (by decide)
  have kc := h.2.2.1.1
  have hb := hW.1
  -- one way
  have one : ∀ (K : ox_Q) (mc mk p' H' b' : Nat), p' < 1000000 → H' < 1000000 → b' ≤ b → scR w a nx (hh - t + gvW w a) (hh, blL wl wh b) = some [(p', H', blL wl wh b')] → (∀ S1, Q (some (.inl 1)) S1 → K (some (.inl 1)) S1) → (∀ S1, Q (some (.inl 0)) S1 → K (some (.inl 0)) S1) → ox_M sp (d + 3) 35 [.inr (.inr (x + 3)), .inl (nI p'), .inl (nI H'), .inl (nI b')] mc mk S K := by
    intro K mc mk p' H' b' g1 g2 g3 hsc hK1 hK0
    refine s_35 hsp h ht (hW.le g3) g1 g2 (fun y1 y2 y3 S' n' f' q1 q2 q3 q4 _ _ _ _ => hK1 _ (hQ1 _ hsc ⟨⟨y1, y2, y3⟩, trivial⟩ S' n' f' q1 q2 q3 q4)) (fun y => hK0 _ (hQ0 (fun l hl hc => y ?_) S lkF.refl))
    rw [hsc] at hl
    rw [← Option.some.inj hl] at hc
    exact hc.1
  -- the first of two ways
  have fst : ∀ (K : ox_Q) (mc mk p1 H1 : Nat) (l2 : List (Nat × oHB)), p1 < 1000000 → H1 < 1000000 → (∀ l, scR w a nx (hh - t + gvW w a) (hh, blL wl wh b) = some l → l = (p1, H1, blL wl wh b) :: l2) → (cm1 κ P (p1, H1, blL wl wh b) → ∀ S1 n1 f1, lkF x S S1 → lkS S1 x c κ (upS P p1 (H1, blL wl wh b)) n1 f1 → n ≤ n1 → (∀ i, i < n → f1 i = f i) → lkW S1 x b wl wh → S1.I 32 (x + 3) = S.I 32 (x + 3) → S1.I 33 (x + 3) = S.I 33 (x + 3) → K (some (.inl 1)) S1) → (∀ S1, Q (some (.inl 0)) S1 → K (some (.inl 0)) S1) → ox_M sp (d + 3) 35 [.inr (.inr (x + 3)), .inl (nI p1), .inl (nI H1), .inl (nI b)] mc mk S K := by
    intro K mc mk p1 H1 l2 g1 g2 hsc hK1 hK0
    refine s_35 hsp h ht hW g1 g2 (fun y1 y2 y3 S' n' f' q1 q2 q3 q4 q5 q6 q7 q8 => hK1 ⟨y1, y2, y3⟩ S' n' f' q1 q2 q3 q4 (hW.keep q5 q6) q7 q8) (fun y => hK0 _ (hQ0 (fun l hl hc => y ?_) S lkF.refl))
    rw [hsc l hl] at hc
    exact hc.1
  -- the second
  have snd : ∀ (K : ox_Q) (mc mk p1 H1 p2 H2 : Nat), p2 < 1000000 → H2 < 1000000 → scR w a nx (hh - t + gvW w a) (hh, blL wl wh b) = some [(p1, H1, blL wl wh b), (p2, H2, blL wl wh b)] → cm1 κ P (p1, H1, blL wl wh b) → ∀ S1 n1 f1, lkF x S S1 → lkS S1 x c κ (upS P p1 (H1, blL wl wh b)) n1 f1 → n ≤ n1 → (∀ i, i < n → f1 i = f i) → lkW S1 x b wl wh → (∀ S1, Q (some (.inl 1)) S1 → K (some (.inl 1)) S1) → (∀ S1, Q (some (.inl 0)) S1 → K (some (.inl 0)) S1) → ox_M sp (d + 3) 35 [.inr (.inr (x + 3)), .inl (nI p2), .inl (nI H2), .inl (nI b)] mc mk S1 K := by
    intro K mc mk p1 H1 p2 H2 g1 g2 hsc hc1 S1 n1 f1 t1 t2 t3 t4 t5 hK1 hK0
    have ht1 : S1.R 10 c < x + 4 ∨ x + 10 < S1.R 10 c := by rw [t1.code k3 kc]; exact ht
    refine s_35 hsp t2 ht1 t5 g1 g2 (fun y1 y2 y3 S' n' f' q1 q2 q3 q4 _ _ _ _ => hK1 _ (hQ1 _ hsc ⟨hc1, ⟨y1, y2, y3⟩, trivial⟩ S' n' f' (t1.trans q1) q2 (by omega) (fun i hi => (q4 i (by omega)).trans (t4 i hi)))) (fun y => hK0 _ (hQ0 (fun l hl hc => y ?_) S1 t1))
    rw [hsc] at hl
    rw [← Option.some.inj hl] at hc
    exact hc.2.1
  refine f_33 hsp ?_
  unfold q_33
  rw [nI_toInt hw, k3, h32, h33, nI_add nx a]
  refine ⟨fun z => ?_, fun z83 => ⟨fun z => ?_, fun z87 => ⟨fun z => ?_, fun z93 => ⟨fun z => ?_, fun z110 => ⟨fun z => ?_, fun z113 => ⟨fun z => ?_, fun z114 => ⟨fun z => ?_, fun z115 => ⟨fun z => ?_, fun z122 => ⟨fun z => ?_, fun z130 => ?_⟩⟩⟩⟩⟩⟩⟩⟩⟩
  · obtain rfl : w = 83 := by omega
    have hsc : scR 83 a nx (hh - t + gvW 83 a) (hh, blL wl wh b) = if blL wl wh b = [] then some [] else none := rfl
    refine ⟨rfl, fun y => ⟨Or.inl rfl, hQ0 (fun l hl => ?_) S lkF.refl⟩, fun y => ⟨Or.inr rfl, hQ1 [] ?_ trivial S n f lkF.refl h (Nat.le_refl n) (fun _ _ => rfl)⟩⟩
    · have hb0 : b ≠ 0 := fun e => y (by rw [e]; rfl)
      obtain ⟨e, rfl⟩ : ∃ e, b = e + 1 := ⟨b - 1, by omega⟩
      rw [hsc, if_neg (fun g => by cases g)] at hl
      cases hl
    · have hb0 : b = 0 := (nI_eq (b := 0) (by omega) (by decide)).mp y
      rw [hsc, hb0]; rfl
  · obtain rfl : w = 87 := by omega
    refine ⟨rfl, fun y => ⟨Or.inl rfl, hQ0 (fun l hl => ?_) S lkF.refl⟩, fun y => ⟨rfl, rfl, by decide, rfl, by decide, 0, 0, Nat.zero_le _, Nat.zero_le _, ?_⟩⟩
    · have hb0 : b = 0 := by have := (nI_leI (b := 0) (by omega) (by decide)).mp y; omega
      subst hb0
      cases hl
    · have hb0 : b ≠ 0 := fun e => y (by rw [e]; decide)
      obtain ⟨e, rfl⟩ : ∃ e, b = e + 1 := ⟨b - 1, by omega⟩
      rw [nI_pred]
      exact one _ _ _ nx _ e (by omega) (by omega) (by omega) rfl (fun S1 q => f_33_268 hE ⟨fun g => absurd g (by decide), fun _ => ⟨Or.inr rfl, q⟩⟩) (fun S1 q => f_33_268 hE ⟨fun _ => ⟨Or.inl rfl, q⟩, fun g => absurd rfl g⟩)
  · obtain rfl : w = 93 := by omega
    have ht1 : 1 = t := Option.some.inj (show (some 1 : Option Nat) = some t from htk)
    subst ht1
    have hgv : gvW 93 a = 2 := rfl
    rw [hgv] at *
    refine ⟨rfl, rfl, by decide, rfl, by decide, 0, 0, Nat.zero_le _, Nat.zero_le _, ?_⟩
    have e2 : nI (hh - 1 + 2) - 2 = nI (hh - 1) := by rw [show (2 : Int32) = nI 2 from rfl, pk_sub (by omega), Nat.add_sub_cancel]
    rw [e2]
    refine fst _ _ _ (nx + a) (hh - 1) [(nx, hh - 1 + 2, blL wl wh b)] (by omega) (by omega) (fun l hl => (Option.some.inj hl).symm) (fun hc1 S1 n1 f1 t1 t2 t3 t4 t5 t6 t7 => f_33_184 hE ⟨fun g => absurd g (by decide), fun _ => ⟨by rw [t2.1.obj (o := 3) (k := 6) (by decide)]; rfl, by rw [t2.1.obj (o := 3) (k := 6) (by decide)]; rfl, by decide, t2.1.obj (by decide), by decide, 0, 0, Nat.zero_le _, Nat.zero_le _, ?_⟩⟩) (fun S1 q => f_33_184 hE ⟨fun _ => ⟨Or.inl rfl, q⟩, fun g => absurd rfl g⟩)
    rw [t6, t7, h32, h33]
    exact snd _ _ _ (nx + a) (hh - 1) nx (hh - 1 + 2) (by omega) (by omega) rfl hc1 S1 n1 f1 t1 t2 t3 t4 t5 (fun S1 q => f_33_200 hE ⟨fun g => absurd g (by decide), fun _ => ⟨Or.inr rfl, q⟩⟩) (fun S1 q => f_33_200 hE ⟨fun _ => ⟨Or.inl rfl, q⟩, fun g => absurd rfl g⟩)
  · obtain rfl : w = 110 := by omega
    refine ⟨rfl, rfl, by decide, rfl, by decide, 0, 0, Nat.zero_le _, Nat.zero_le _, ?_⟩
    exact one _ _ _ (nx + a) _ b (by omega) (by omega) (Nat.le_refl b) rfl (fun S1 q => f_33_114 hE ⟨Or.inr rfl, q⟩) (fun S1 q => f_33_114 hE ⟨Or.inl rfl, q⟩)
  · obtain rfl : w = 113 := by omega
    refine ⟨rfl, rfl, by decide, rfl, by decide, 0, 0, Nat.zero_le _, Nat.zero_le _, ?_⟩
    exact one _ _ _ a _ b (by omega) (by omega) (Nat.le_refl b) rfl (fun S1 q => f_33_128 hE ⟨Or.inr rfl, q⟩) (fun S1 q => f_33_128 hE ⟨Or.inl rfl, q⟩)
  · obtain rfl : w = 114 := by omega
    refine ⟨rfl, rfl, by decide, rfl, by decide, 0, 0, Nat.zero_le _, Nat.zero_le _, ?_⟩
    refine fst _ _ _ a (hh - t + gvW 114 a) [(nx, hh - t + gvW 114 a, blL wl wh b)] (by omega) (by omega) (fun l hl => (Option.some.inj hl).symm) (fun hc1 S1 n1 f1 t1 t2 t3 t4 t5 t6 t7 => f_33_142 hE ⟨fun g => absurd g (by decide), fun _ => ⟨by rw [t2.1.obj (o := 3) (k := 6) (by decide)]; rfl, by rw [t2.1.obj (o := 3) (k := 6) (by decide)]; rfl, by decide, t2.1.obj (by decide), by decide, 0, 0, Nat.zero_le _, Nat.zero_le _, ?_⟩⟩) (fun S1 q => f_33_142 hE ⟨fun _ => ⟨Or.inl rfl, q⟩, fun g => absurd rfl g⟩)
    rw [t6, t7, h32, h33]
    exact snd _ _ _ a (hh - t + gvW 114 a) nx (hh - t + gvW 114 a) (by omega) (by omega) rfl hc1 S1 n1 f1 t1 t2 t3 t4 t5 (fun S1 q => f_33_158 hE ⟨fun g => absurd g (by decide), fun _ => ⟨Or.inr rfl, q⟩⟩) (fun S1 q => f_33_158 hE ⟨fun _ => ⟨Or.inl rfl, q⟩, fun g => absurd rfl g⟩)
  · obtain rfl : w = 115 := by omega
    refine ⟨rfl, rfl, by decide, rfl, by decide, 0, 0, Nat.zero_le _, Nat.zero_le _, ?_⟩
    refine fst _ _ _ a (hh - t + gvW 115 a) [(nx, hh - t + gvW 115 a, blL wl wh b)] (by omega) (by omega) (fun l hl => (Option.some.inj hl).symm) (fun hc1 S1 n1 f1 t1 t2 t3 t4 t5 t6 t7 => f_33_142 hE ⟨fun g => absurd g (by decide), fun _ => ⟨by rw [t2.1.obj (o := 3) (k := 6) (by decide)]; rfl, by rw [t2.1.obj (o := 3) (k := 6) (by decide)]; rfl, by decide, t2.1.obj (by decide), by decide, 0, 0, Nat.zero_le _, Nat.zero_le _, ?_⟩⟩) (fun S1 q => f_33_142 hE ⟨fun _ => ⟨Or.inl rfl, q⟩, fun g => absurd rfl g⟩)
    rw [t6, t7, h32, h33]
    exact snd _ _ _ a (hh - t + gvW 115 a) nx (hh - t + gvW 115 a) (by omega) (by omega) rfl hc1 S1 n1 f1 t1 t2 t3 t4 t5 (fun S1 q => f_33_158 hE ⟨fun g => absurd g (by decide), fun _ => ⟨Or.inr rfl, q⟩⟩) (fun S1 q => f_33_158 hE ⟨fun _ => ⟨Or.inl rfl, q⟩, fun g => absurd rfl g⟩)
  · obtain rfl : w = 122 := by omega
    have ht1 : 0 = t := Option.some.inj (show (some 0 : Option Nat) = some t from htk)
    subst ht1
    have hgv : hh - 0 + gvW 122 a = hh := rfl
    rw [hgv] at h32 hQ1 hQ0 fst ⊢
    have hsc : scR 122 a nx hh (hh, blL wl wh b) = if (blL wl wh b).length = 4 then none else some [(nx + a, hh + 1, blL wl wh b), (nx, hh, (hh, nx + a) :: blL wl wh b)] := rfl
    rw [blL_len] at hsc
    refine ⟨rfl, rfl, by decide, rfl, by decide, 0, 0, Nat.zero_le _, Nat.zero_le _, ?_⟩
    rw [nI_1]
    refine fst _ _ _ (nx + a) (hh + 1) [(nx, hh, (hh, nx + a) :: blL wl wh b)] (by omega) (by omega) (fun l hl => ?_) (fun hc1 S1 n1 f1 t1 t2 t3 t4 t5 t6 t7 => f_33_226 hE ⟨fun g => absurd g (by decide), fun _ => ⟨by decide, t2.1.obj (by decide), by decide, 0, 0, Nat.zero_le _, Nat.zero_le _, ?_⟩⟩) (fun S1 q => f_33_226 hE ⟨fun _ => ⟨Or.inl rfl, q⟩, fun g => absurd rfl g⟩)
    · rw [hsc] at hl
      by_cases e : b = 4
      · rw [if_pos e] at hl; cases hl
      · rw [if_neg e] at hl; exact (Option.some.inj hl).symm
    · have ht1 : S1.R 10 c < x + 4 ∨ x + 10 < S1.R 10 c := by rw [t1.code k3 kc]; exact ht
      rw [nI_add nx a]
      refine s_34 hsp t2 ht1 t5 (t6.trans h32) (t7.trans h33) (by omega) (by omega) (by omega) (fun e4 hc2 S' n' f' q1 q2 q3 q4 => f_33_237 hE ⟨fun g => absurd g (by decide), fun _ => ⟨Or.inr rfl, hQ1 [(nx + a, hh + 1, blL wl wh b), (nx, hh, (hh, nx + a) :: blL wl wh b)] (by rw [hsc, if_neg e4]) ⟨hc1, hc2, trivial⟩ S' n' f' (t1.trans q1) q2 (by omega) (fun i hi => (q4 i (by omega)).trans (t4 i hi))⟩⟩) (fun hn S' q1 => f_33_237 hE ⟨fun _ => ⟨Or.inl rfl, hQ0 (fun l hl hc => ?_) S' (t1.trans q1)⟩, fun g => absurd rfl g⟩)
      rw [hsc] at hl
      by_cases e : b = 4
      · rw [if_pos e] at hl; cases hl
      · rw [if_neg e] at hl
        rw [← Option.some.inj hl] at hc
        exact hn e hc.2.1
  · obtain rfl : w = 130 := by omega
    exact ⟨Or.inr rfl, hQ1 [] rfl trivial S n f lkF.refl h (Nat.le_refl n) (fun _ _ => rfl)⟩
  · refine ⟨rfl, rfl, by decide, rfl, by decide, 0, 0, Nat.zero_le _, Nat.zero_le _, ?_⟩
    refine one _ _ _ nx _ b (by omega) (by omega) (Nat.le_refl b) ?_ (fun S1 q => f_33_290 hE ⟨Or.inr rfl, q⟩) (fun S1 q => f_33_290 hE ⟨Or.inl rfl, q⟩)
    unfold scR
    rw [if_neg (by omega), if_neg (by omega), if_neg (by omega), if_neg (by omega), if_neg (by omega), if_neg (by omega), if_neg (by omega), if_neg (by omega)]
end OPS
