/-! the reference reads: all was read -/
theorem cd_back (c : Nat) {γ : Int → Nat} : (-1 : Int32) - gV γ (-1 - (c : Int)) = nI c := by
  unfold gV
  rw [if_pos (by omega)]
  have e1 : (-1 : Int32) - Int32.ofInt (-1 - (c : Int)) = Int32.ofInt (-1 - (-1 - (c : Int))) := (Int32.ofInt_sub (-1) (-1 - (c : Int))).symm
  rw [e1, show (-1 - (-1 - (c : Int))) = (c : Int) by omega]
  exact Int32.ofInt_eq_ofNat
theorem mtS.sI {S : ox_St} {m ce e F : Nat} {b : Nat → Nat} {s : oTS} {w : Int32} (h : mtS S m ce b e s) (hF : F ≠ 70 ∧ F ≠ 120 ∧ F ≠ 121 ∧ F ≠ 132) : mtS (S.sI F m w) m ce b e s := by
  obtain ⟨a1, a2, a3, a4, a5, a6⟩ := h
  have eI : ∀ G, G ≠ F → (S.sI F m w).I G m = S.I G m := fun G hG => by rw [or_sI_I, if_neg (fun y => hG y.1)]
  exact ⟨a1.next (or_sI_K _ _ _ _) (or_sI_len _ _ _ _) (fun G => by rw [or_sI_R]), (eI 121 (by omega)).trans a2, a3, fun z => by rw [eI 120 (by omega), eI 132 (by omega), eI 70 (by omega)]; exact a4 z, fun v hv => by rw [eI 132 (by omega), eI 70 (by omega)]; exact a5 v hv, fun j hj => by rw [or_sI_rI]; exact a6 j hj⟩
section R2
variable {sp : ox_E} {d mr sr : Nat} {Q : ox_Q} {i : rFi} {S0 V W : ox_St} {T T0 : Nat} {C : Nat → xCd} {nc y : Nat} {s : xSt} {p : Nat} {γ : Int → Nat} {B : List Int} {h : pH} {Bn Kn Wn : Nat}
theorem rG.end (hsp : ox_mono sp) (hb : rR i.S i.m i.ce i.γ i.B T0 C nc y s) (hn : rCn i.S i.m i.γ C nc i.q.2.1 i.q.2.2.1 i.q.2.2.2.1) (eq1 : i.q.1 = nc) (eq5 : i.q.2.2.2.2 = T0) (hl : ∀ g ∈ s.f, g.2.2.1.length ≤ 10 ∧ g.2.2.2.2.length ≤ 4) (lm : rLm i.q i.e) (ou : mOu i.m S0 i.S) (t72 : i.S.I 72 i.m = 0) (t96 : i.S.I 96 i.m = S0.I 96 i.m) (g : rG i V (p, none) γ B T h [] Bn Kn Wn 1) (hC : ∀ c, c < nc → h.C c = C c)
    (hA : p < i.e → qA Q i.m S0 C nc y s i.q.2.1 i.q.2.2.1 i.q.2.2.2.1 1 (nI p))
    (hB : ¬ p < i.e → ∀ j, j < h.l.length → (∀ a, a < j → ∃ T, okT (h.C (h.l.getD a 0)).1 T) → ¬ (∃ T, okT (h.C (h.l.getD j 0)).1 T) → qA Q i.m S0 C nc y s i.q.2.1 i.q.2.2.1 i.q.2.2.2.1 2 (nI (1000 * j)))
    (hG : ¬ p < i.e → (∀ c ∈ h.l, ∃ T, okT (h.C c).1 T) → qC Q i.m S0 nc s h i.e i.q.2.1 i.q.2.2.1 i.q.2.2.2.1) : k_161_88 (ox_M sp (d + 7)) i.m (nI nc) (nI i.q.2.1) (nI i.q.2.2.1) (nI i.q.2.2.2.1) mr sr Q none (V.sI 125 i.m (gV γ (-1 - (nc : Int)))) := by
  have hE : ox_mono (ox_M sp (d + 7)) := ox_M_mono hsp _
  have c23 := g.c23
  have ht := g.1.2.2.2.1 rfl
  have pe : p ≤ i.e := ht.2.2.1
  have e800 := g.1.2.2.1
  obtain ⟨z1, z2, z3, z4, z5, z6⟩ := rG.fin hb hn eq1 hl lm pe g hC
  obtain ⟨⟨x1, x2⟩, ⟨x3, x4⟩, ⟨x5, x6⟩, ⟨x7, x8⟩, ⟨x9, x10⟩, x11⟩ := g.2.2.2.2.2.2.2.2
  have x2' : 9 * h.c ≤ 9 * i.q.1 + p := x2
  have x4' : Bn ≤ i.q.2.1 + p := x4
  have x6' : Kn + 1 + 0 ≤ i.q.2.2.1 + p := x6
  have x8' : Wn ≤ i.q.2.2.2.1 + p := x8
  have T11 := g.2.2.1.1.2.2.2.2
  have kI : ∀ F, kRf F → V.I F i.m = i.S.I F i.m := fun F hF => g.2.1.2.2.2.2.2.2.1 F i.m (Or.inr hF)
  have i124 : V.I 124 i.m = nI h.l.length := g.2.2.2.2.2.1.1
  have ll : i.q.1 + h.l.length + 0 ≤ h.c := g.2.2.2.2.2.2.1.2.2.1
  have r35 := g.2.2.2.2.2.1.2
  have i75 := g.2.2.1.2.1
  have i122 : V.I 122 i.m = nI 0 := g.2.2.2.1.1.1
  have mtW := g.1.sI (F := 125) (w := gV γ (-1 - (nc : Int))) (by decide)
  have kW : kR V (V.sI 125 i.m (gV γ (-1 - (nc : Int)))) i.m i.ce i.q := kR.refl.sI (by unfold kRf; omega)
  have fW : fdS i.m V (V.sI 125 i.m (gV γ (-1 - (nc : Int)))) := fdS.refl.sI
  have oW : mOu i.m S0 (V.sI 125 i.m (gV γ (-1 - (nc : Int)))) := (ou.trans (g.2.1.ou c23)).sI
  have eW : ∀ F, F ≠ 125 → (V.sI 125 i.m (gV γ (-1 - (nc : Int)))).I F i.m = V.I F i.m := fun F hF => by rw [or_sI_I, if_neg (fun y => hF y.1)]
  have e125 : (V.sI 125 i.m (gV γ (-1 - (nc : Int)))).I 125 i.m = gV γ (-1 - (nc : Int)) := by rw [or_sI_I, if_pos ⟨rfl, rfl⟩]
  generalize V.sI 125 i.m (gV γ (-1 - (nc : Int))) = W at mtW kW fW oW eW e125 ⊢
  have hk := mtW.1.1
  have w132 : W.I 132 i.m = 0 := (eW 132 (by decide)).trans ht.2.1
  have w122 : W.I 122 i.m ≤ 0 := by rw [eW 122 (by decide), i122]; decide
  have w120 : W.I 120 i.m = nI p := (eW 120 (by decide)).trans ht.1
  have w121 : W.I 121 i.m = nI i.e := mtW.2.1
  refine f_161_88 hE ⟨by rw [hk]; rfl, fun z => absurd w132 z, fun _ => ⟨by rw [hk]; rfl, fun _ => ⟨by rw [hk]; rfl, fun z => absurd w132 z, fun _ => ⟨by rw [hk]; rfl, by rw [hk]; rfl, fun z => ?_, fun z => ⟨by rw [hk]; rfl, by decide, hk, by decide, 0, 0, Nat.zero_le _, Nat.zero_le _, ?_⟩⟩⟩, fun z => absurd w122 z⟩⟩
  · rw [w120, w121] at z
    have le := (nI_leI (by omega) (by omega)).mp z
    have np : ¬ p < i.e := by omega
    refine f_161_136 hE ⟨by rw [hk]; rfl, fun _ => ⟨by rw [hk]; rfl, ?_⟩, fun z => absurd w132 z⟩
    have f1 : fdS i.m V (W.sI 69 i.m 0) := fW.sI
    have o1 : mOu i.m S0 (W.sI 69 i.m 0) := oW.sI
    have e1 : ∀ F, F ≠ 69 → (W.sI 69 i.m 0).I F i.m = W.I F i.m := fun F hF => by rw [or_sI_I, if_neg (fun y => hF y.1)]
    have e69 : (W.sI 69 i.m 0).I 69 i.m = 0 := by rw [or_sI_I, if_pos ⟨rfl, rfl⟩]
    show c_161_155 (ox_M sp (d + 7)) i.m (nI nc) (nI i.q.2.1) (nI i.q.2.2.1) (nI i.q.2.2.2.1) (nI 0) (W.sI 69 i.m 0) mr sr Q
    generalize W.sI 69 i.m 0 = W1 at f1 o1 e1 e69 ⊢
    have ml1 : oML W1 i.m i.ce := g.1.1.next f1.1 f1.2.1 (fun F => by rw [f1.2.2.1])
    have rr := f1.2.2.2.2.1
    refine r161_l (C := h.C) (l := h.l) hsp ml1 (by omega) ((e1 124 (by decide)).trans ((eW 124 (by decide)).trans i124)) e69 (fun j hj => by rw [rr 35 (by omega)]; exact r35 j hj) (fun c hc => ?_) (fun all V2 mr sr x5 f2 => ?_) (fun V2 j hj hok bad f2 => ?_) h.l.length 0 mr sr W1 (Nat.zero_add _) mlF.refl (fun a ha => absurd ha (Nat.not_lt_zero _))
    · obtain ⟨gg, k, w, ⟨⟨s1, s2, s3⟩, ⟨s4, s5, s6⟩, ⟨s7, s8⟩, s9⟩, -⟩ := z2.2.1 c (g.2.2.2.2.2.2.1.1 c hc).1
      exact ⟨gg, ⟨by rw [rr 4 (by omega)]; exact s1, by rw [rr 5 (by omega)]; exact s2, by rw [rr 6 (by omega)]; exact s3⟩, ⟨by rw [rr 7 (by omega)]; exact s4, by rw [rr 8 (by omega)]; exact s5, fun p hp => by rw [rr 13 (by omega)]; exact s6 p hp⟩, ⟨by rw [rr 10 (by omega)]; exact s7, by rw [rr 12 (by omega)]; exact s8⟩, s9⟩
    · have v125 : W1.I 125 i.m = gV γ (-1 - (nc : Int)) := (e1 125 (by decide)).trans e125
      rw [v125, cd_back]
      have f3 : fdS i.m V (V2.sI 96 i.m (nI nc)) := (f1.ml f2).sI
      have o3 : mOu i.m S0 (V2.sI 96 i.m (nI nc)) := (o1.trans f2.ou).sI
      have e2 : ∀ F, F ≠ 96 → F < 138 → (V2.sI 96 i.m (nI nc)).I F i.m = W1.I F i.m := fun F hF h8 => by rw [or_sI_I, if_neg (fun y => hF y.1)]; exact f2.2.2.2.2.2.2.2.1 F i.m (Or.inr (Or.inl h8))
      have e96 : (V2.sI 96 i.m (nI nc)).I 96 i.m = nI nc := by rw [or_sI_I, if_pos ⟨rfl, rfl⟩]
      generalize V2.sI 96 i.m (nI nc) = V3 at f3 o3 e2 e96 ⊢
      have eV : ∀ F, F ≠ 96 → F ≠ 69 → F ≠ 125 → F < 138 → V3.I F i.m = V.I F i.m := fun F h1 h2 h3 h4 => (e2 F h1 h4).trans ((e1 F h2).trans (eW F h3))
      have r3 := z1.fd hl f3
      have n3 := z2.fd f3 (fun F hF => eV F (by omega) (by omega) (by omega) (by omega))
      refine r_171 hsp r3 e96 (fun S' fx eR e96' r' => f_161_252 hE ⟨rfl, hG np all S' i.ce γ B T Bn Kn Wn (o3.trans fx.ou) r' ?_ ⟨by omega, by omega, by omega, by omega⟩ ?_ ?_ ?_ e96'⟩)
      · exact n3.of (fun F hF => fx.2.2.2.2.2.2.2.2.2.1 F (by omega)) (fun p hp c hc => by rw [fx.2.2.2.2.2.2.2.2.2.2.1 p (by omega)]) r'.2.2.1.2 z4 z5 z6
      · exact (fx.2.2.2.2.2.2.2.2.2.1 69 (by omega)).trans ((e2 69 (by decide) (by decide)).trans e69)
      · exact (fx.2.2.2.2.2.2.2.2.2.1 70 (by omega)).trans ((eV 70 (by decide) (by decide) (by decide) (by decide)).trans ht.2.2.2)
      · exact (fx.2.2.2.2.2.2.2.2.2.1 72 (by omega)).trans ((eV 72 (by decide) (by decide) (by decide) (by decide)).trans ((kI 72 (by unfold kRf; omega)).trans t72))
    · have vI : ∀ F, F < 138 → V2.I F i.m = W1.I F i.m := fun F h8 => f2.2.2.2.2.2.2.2.1 F i.m (Or.inr (Or.inl h8))
      have sI : ∀ F, F ≠ 69 → F ≠ 70 → ((V2.sI 69 i.m 2).sI 70 i.m (nI (1000 * j))).I F i.m = V2.I F i.m := fun F h1 h2 => by rw [or_sI_I, if_neg (fun y => h2 y.1), or_sI_I, if_neg (fun y => h1 y.1)]
      refine r161_f (V := V) hb hn eq1 eq5 hl lm g.2.1 i75 (by omega) T11 (f1.ml f2).sI.sI (o1.trans f2.ou).sI.sI ?_ ?_ ?_ ?_ (hB np j hj hok bad)
      · rw [or_sI_I, if_neg (fun y => absurd y.1 (by decide)), or_sI_I, if_pos ⟨rfl, rfl⟩]
      · rw [or_sI_I, if_pos ⟨rfl, rfl⟩]
      · rw [sI 72 (by decide) (by decide), vI 72 (by decide), e1 72 (by decide), eW 72 (by decide), kI 72 (by unfold kRf; omega)]; exact t72
      · rw [sI 96 (by decide) (by decide), vI 96 (by decide), e1 96 (by decide), eW 96 (by decide), kI 96 (by unfold kRf; omega)]; exact t96
  · rw [w120, w121] at z
    have lt : p < i.e := Nat.lt_of_not_le (fun w => z (nI_le w (by omega)))
    rw [w120]
    refine s_150 hsp mtW (fun S' f1 m1 => r161_136f hE m1.1.1 (m1.2.2.2.2.1 p rfl).1 ?_)
    exact rF.end hb hn eq1 eq5 hl lm ou t72 t96 ⟨⟨p, m1⟩, (g.2.1.trans kW).trans (kR.tk f1), T, (f1.2.2.2.2.2.2.2.2 75 i.m (Or.inr (by omega))).trans ((eW 75 (by decide)).trans i75), x9, T11⟩ (hA lt)
end R2
