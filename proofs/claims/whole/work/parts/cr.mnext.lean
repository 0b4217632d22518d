/-! the reference: NEXT -/
section RNx
variable {sp : ox_E} {d mr sr : Nat} {S S' S2 : ox_St} {Q : ox_Q} {m ce a : Nat} {γ : Int → Nat} {B : List Int} {T : Nat} {C : Nat → xCd} {nc K y : Nat} {e : xEn} {q j i : Nat} {st r : List Int} {v u n : Int} {H : xHp} {o : xOb}
/-- a walker goes on -/
theorem rHp.wk {ov : Int} {k k' : Nat} (h : rHp S a γ B H T) (vB : v ∈ B) (hv : H v = some (.inr (.inr (.inr (.inl (ov, k)))))) : rHp (S.wI a (γ v + 2) (nI k')) a γ B (xNew H v (.inr (.inr (.inr (.inl (ov, k')))))) T := by
  have row : ∀ j, (S.wI a (γ v + 2) (nI k')).rI a j = if j = γ v + 2 then nI k' else S.rI a j := fun j => by
    rw [or_wI_rI]
    simp only [true_and]
  generalize S.wI a (γ v + 2) (nI k') = U at row ⊢
  obtain ⟨⟨c1, c2⟩, h2, h3, h4, h5⟩ := h
  have self : xNew H v (.inr (.inr (.inr (.inl (ov, k'))))) v = some (.inr (.inr (.inr (.inl (ov, k'))))) := if_pos rfl
  have old : ∀ w, w ≠ v → xNew H v (.inr (.inr (.inr (.inl (ov, k'))))) w = H w := fun w hw => if_neg hw
  have sz : ∀ w ob, xNew H v (.inr (.inr (.inr (.inl (ov, k'))))) w = some ob → ∃ ob', H w = some ob' ∧ xSz ob = xSz ob' := fun w ob hw => by
    by_cases z : w = v
    · rw [z, self] at hw
      cases hw
      exact ⟨.inr (.inr (.inr (.inl (ov, k)))), by rw [z]; exact hv, rfl⟩
    · rw [old w z] at hw
      exact ⟨ob, hw, rfl⟩
  refine ⟨⟨c1, fun w hw => ?_⟩, fun w hw ob e1 => ?_, fun u hu w hw ne ob p e1 e2 => ?_, h4, h5⟩
  · obtain ⟨ob, e1, g⟩ := c2 w hw
    by_cases z : w = v
    · rw [z, hv] at e1
      cases e1
      rw [z]
      exact ⟨_, self, g⟩
    · exact ⟨ob, by rw [old w z]; exact e1, g⟩
  · by_cases z : w = v
    · rw [z, self] at e1
      cases e1
      rw [z]
      obtain ⟨g1, ⟨g2, g3, g4, g5⟩, g6⟩ := h2 v vB _ hv
      refine ⟨g1, ⟨g2, ?_, ?_, ?_⟩, g6⟩
      · rw [row, if_neg (by omega)]; exact g3
      · rw [row, if_neg (by omega)]; exact g4
      · rw [row, if_pos rfl]
    · rw [old w z] at e1
      obtain ⟨g1, g2, g3⟩ := h2 w hw ob e1
      have dis := h3 w hw v vB z ob _ e1 hv
      have s3 : xSz (.inr (.inr (.inr (.inl (ov, k))))) = 3 := rfl
      exact ⟨g1, g2.next (fun j z1 z2 => by rw [row, if_neg (by omega)]) rfl (fun _ _ => rfl), g3⟩
  · obtain ⟨ob', f1, f2⟩ := sz u ob e1
    obtain ⟨p', f3, f4⟩ := sz w p e2
    rw [f2, f4]
    exact h3 u hu w hw ne ob' p' f1 f3
theorem rE.wk (h : rE S m ce γ B T C nc y e q st) (hx : xEs1 C nc K e st) {ov : Int} {k k' : Nat} (hB : xIn B v) (hv : e.H v = some (.inr (.inr (.inr (.inl (ov, k)))))) : rE (S.wI (m + ce) (γ v + 2) (nI k')) m ce γ B T C nc y (e.wH (xNew e.H v (.inr (.inr (.inr (.inl (ov, k'))))))) q st ∧ mFx m S (S.wI (m + ce) (γ v + 2) (nI k')) ∧ (S.wI (m + ce) (γ v + 2) (nI k')).R = S.R := by
  have h16 := (hx.1.1.2 v _ hv).1
  have vB : v ∈ B := hB.resolve_left (by omega)
  obtain ⟨a1, ⟨a2, a3⟩, ⟨a4, a5⟩, a6, a7, a8, c1, c2, c3⟩ := id h
  obtain ⟨⟨x1, x2, x3, x4, x5, x6, x7⟩, y2, y3, y4⟩ := id hx
  have hp := a2.wk (k' := k') vB hv
  have hce := h.c23
  have fx : mFx m S (S.wI (m + ce) (γ v + 2) (nI k')) := mFx.refl.wI (by omega)
  have eR : (S.wI (m + ce) (γ v + 2) (nI k')).R = S.R := or_wI_R _ _ _ _
  have eI : (S.wI (m + ce) (γ v + 2) (nI k')).I = S.I := or_wI_I _ _ _ _
  have eJ : (S.wI (m + ce) (γ v + 2) (nI k')).rJ = S.rJ := or_wI_rJ _ _ _ _
  have er : ∀ a, m + 4 ≤ a → (S.wI (m + ce) (γ v + 2) (nI k')).rI a = S.rI a := fun a z => funext fun j => by rw [or_wI_rI, if_neg (fun y => by have := y.1; omega)]
  generalize S.wI (m + ce) (γ v + 2) (nI k') = U at hp fx eR eI eJ er ⊢
  refine ⟨⟨a1.next fx.2.1 fx.2.2.1 (fun F => by rw [eR]), ⟨hp, by rw [eI]; exact a3⟩, ⟨a4, fun c hc => (a5 c hc).next (fun a z1 z2 => er a z1) (by rw [eJ]) (fun _ _ => rfl)⟩, ?_, a7.next (by rw [eI]) (by rw [eJ]) (er _ (by omega)) (fun _ _ => rfl), by rw [eI]; exact a8, c1, c2, c3⟩, fx, eR⟩
  refine rFs.next _ (fun f _ => ⟨fun o z1 z2 => by rw [er _ (by omega)], fun j _ => by rw [er _ (by omega)], fun j _ => by rw [er _ (by omega)], fun j _ => by rw [er _ (by omega), er _ (by omega)]; exact ⟨rfl, rfl⟩⟩) (fun g hg => ?_) (fun _ _ _ _ => rfl) a6
  rcases List.mem_cons.mp hg with z | z
  · rw [z]; exact ⟨y3, y4⟩
  · exact ⟨by have := (x7 g z).len x2; omega, ((x7 g z).blk x2).1⟩
theorem rE.tagc (h : rE S m ce γ B T C nc y e q st) (hx : xEs1 C nc K e st) (hB : xIn B v) (hv : e.H v = some o) : S.rI (m + ce) (γ v) = Int32.ofInt (xTo o) ∧ gV γ v = nI (γ v) ∧ γ v + xSz o ≤ 1100000 ∧ rO S (m + ce) γ v o := by
  have h16 := (hx.1.1.2 v _ hv).1
  obtain ⟨o', e1, r1, r2, eg⟩ := h.hi hB (by omega)
  rw [hv] at e1
  cases e1
  exact ⟨by rw [r1.tag h16 hv, xTg_o h16 hv], eg, r2, r1⟩
set_option maxHeartbeats 1000000 in
theorem r_187 (hsp : ox_mono sp) (hK : K < 2 ^ 30) (hin : rIn C nc K e (v :: r) 1) (h : rE S m ce γ B T C nc y e q (v :: r)) (hT : T + 19 ≤ 1100000) (hl : r.length + 1 < 10) (hQ : ∀ S', mFx m S S' → S'.R = S.R → rX S' m ce T C nc y e q (v :: r) (xNext e q a r v) → Q none S') : ox_M sp (d + 4) 187 [.inr (.inr m), .inl (nI (q + a))] mr sr S Q := by
  have hE : ox_mono (ox_M sp (d + 3)) := ox_M_mono hsp _
  have hx := hin.1
  have k14 := h.k
  have t7 := hx.t7
  obtain ⟨c1, c2, c3⟩ := h.ml.cells
  refine f_187 hsp ⟨by rw [k14]; rfl, ?_⟩
  rw [h.f92, nI_pred]
  intro w1
  have ew : w1 = nI e.t.length := rfl
  clear_value w1
  subst ew
  refine ⟨by decide, k14, by decide, 0, 0, Nat.zero_le _, Nat.zero_le _, ?_⟩
  show ox_M sp (d + 3) 176 [.inr (.inr m), .inl (nI 0)] 0 0 S _
  refine r_176 hsp h hx (i := 0) (Nat.succ_pos _) (fun hB' => ?_)
  have hB : xIn B v := hB'
  refine f_187_12 (y0 := gV γ v) hE ⟨by decide, k14, by decide, 0, 0, Nat.zero_le _, Nat.zero_le _, r_133 hsp h hx hx.head hB (f_187_18 hE ?_)⟩
  have bad : xNext e q a r v = .inl 0 → ∀ x3 mr sr, ox_M sp (d + 3) 177 [.inr (.inr m), .inl 0] 0 0 S (k_187_28 (ox_M sp (d + 3)) m (nI (q + a)) (nI e.t.length) x3 mr sr Q) := fun e0 x3 mr sr => by
    rw [e0] at hQ
    exact r_raise hsp (k := 0) (i := 0) (by decide) hin (Nat.zero_le _) h (fun S' g1 g2 g3 => f_187_28 hE ⟨rfl, hQ S' g1 g2 (rX_k g3)⟩)
  by_cases v16 : v < 16
  · obtain ⟨-, e0, -⟩ := h.lo hx hx.head v16
    rw [if_pos v16]
    exact ⟨fun z => absurd z (by decide), fun _ => ⟨by decide, k14, by decide, 0, 0, Nat.zero_le _, Nat.zero_le _, bad (by unfold xNext; rw [e0]) _ _ _⟩⟩
  · obtain ⟨ob, e1, r1, r2, eg⟩ := h.hi hB v16
    rw [if_neg v16, xTg_o (by omega) e1]
    match ob, e1, r1, r2 with
    | .inl _, e1, _, _ => exact ⟨fun z => absurd z (show ¬ Int32.ofInt 3 = 6 by decide), fun _ => ⟨by decide, k14, by decide, 0, 0, Nat.zero_le _, Nat.zero_le _, bad (by unfold xNext; rw [e1]) _ _ _⟩⟩
    | .inr (.inl _), e1, _, _ => exact ⟨fun z => absurd z (show ¬ Int32.ofInt 4 = 6 by decide), fun _ => ⟨by decide, k14, by decide, 0, 0, Nat.zero_le _, Nat.zero_le _, bad (by unfold xNext; rw [e1]) _ _ _⟩⟩
    | .inr (.inr (.inl _)), e1, _, _ => exact ⟨fun z => absurd z (show ¬ Int32.ofInt 5 = 6 by decide), fun _ => ⟨by decide, k14, by decide, 0, 0, Nat.zero_le _, Nat.zero_le _, bad (by unfold xNext; rw [e1]) _ _ _⟩⟩
    | .inr (.inr (.inr (.inr _))), e1, _, _ => exact ⟨fun z => absurd z (show ¬ Int32.ofInt 7 = 6 by decide), fun _ => ⟨by decide, k14, by decide, 0, 0, Nat.zero_le _, Nat.zero_le _, bad (by unfold xNext; rw [e1]) _ _ _⟩⟩
    | .inr (.inr (.inr (.inl (ov, k)))), e1, ⟨g16, r3, r4, r5⟩, r2 =>
      have r4' : S.rI (m + ce) (γ v + 1) = gV γ ov := r4
      have r5' : S.rI (m + ce) (γ v + 2) = nI k := r5
      have sz3 : xSz (.inr (.inr (.inr (.inl (ov, k))))) = 3 := rfl
      obtain ⟨ol, ok⟩ := (hx.1.1.2 v _ e1).2.2
      have ok' : k ≤ K := ok
      have ol' : xLen e.H ov ≠ none := ol
      have vB : v ∈ B := hB.resolve_left (by omega)
      have oB : xIn B ov := by
        obtain ⟨o2, e2, cl⟩ := h.2.1.1.1.2 v vB
        have e2' : e.H v = some o2 := e2
        rw [e1] at e2'
        cases e2'
        exact cl ov List.mem_cons_self
      have n1 : nI (γ v) + 1 = nI (γ v + 1) := nI_1 _
      have n2 : nI (γ v) + 2 = nI (γ v + 2) := nI_add _ 2
      refine ⟨fun _ => ?_, fun z => absurd (show Int32.ofInt 6 = 6 by decide) z⟩
      rw [eg, c1, c2, c3, k14, n1, n2, nI_clamp (show γ v + 1 < 2 ^ 31 by omega), nI_clamp (show γ v + 2 < 2 ^ 31 by omega), r4', r5']
      -- the walker is at its end
      have fin : ∀ (mr sr : Nat), xNext e q a r v = xGo e (q + a) r → (ox_has (S.K m) 100 = true ∧ ox_rdI (S.K (S.R 100 m)) = true ∧ vp_in (nI e.t.length) (S.len (S.R 100 m)) ∧ S.K (S.R 100 m) = 15 ∧ vp_in (nI e.t.length) (S.len (S.R 100 m)) ∧ (let S4 := S.wI (S.R 100 m) (Int32.toNatClampNeg (nI e.t.length)) ((S.rI (S.R 100 m) (Int32.toNatClampNeg (nI e.t.length))) - 1); (ox_has (S4.K m) 99 = true ∧ (S4.K (S4.R 99 m) = 15 ∧ vp_in (nI e.t.length) (S4.len (S4.R 99 m)) ∧ (let S5 := S4.wI (S4.R 99 m) (Int32.toNatClampNeg (nI e.t.length)) (nI (q + a)); ((ox_mi 187).2.2.2.1 = none ∧ Q none S5)))))) := fun mr sr ex => by
        obtain ⟨b1, b2, b3⟩ := h.ml.row (F := 100) (o := 18) (k := 15) (n := 8) (by decide)
        obtain ⟨d1, d2, d3⟩ := h.ml.row (F := 99) (o := 17) (k := 15) (n := 8) (by decide)
        have ht : S.rI (m + 18) e.t.length = nI (r.length + 1) := h.ht
        rw [ex] at hQ
        rw [b1, b2, b3, nI_clamp (show e.t.length < 2 ^ 31 by omega), ht, nI_pred]
        refine ⟨by rw [k14]; rfl, rfl, vp_in_nI (by omega) (by decide), rfl, vp_in_nI (by omega) (by decide), ?_⟩
        obtain ⟨l1, l2⟩ := h.low hx 1
        have l1' : rCh m ce T e.t.length S (S.wI (m + 18) e.t.length (nI r.length)) := l1
        have l2' : rE (S.wI (m + 18) e.t.length (nI r.length)) m ce γ B T C nc y e q r := l2
        have eK : (S.wI (m + 18) e.t.length (nI r.length)).K = S.K := or_wI_K _ _ _ _
        have eL : (S.wI (m + 18) e.t.length (nI r.length)).len = S.len := or_wI_len _ _ _ _
        have eR : (S.wI (m + 18) e.t.length (nI r.length)).R = S.R := or_wI_R _ _ _ _
        generalize S.wI (m + 18) e.t.length (nI r.length) = U at l1' l2' eK eL eR ⊢
        obtain ⟨p1, p2⟩ := l2'.place hx.tail (q + a)
        refine ⟨by rw [eK, k14]; rfl, by rw [eR, eK, d1]; exact d2, by rw [eR, eL, d1, d3]; exact vp_in_nI (by omega) (by decide), ?_⟩
        rw [eR, d1]
        exact ⟨rfl, hQ _ (l1'.1.trans p1.1) (p1.2.1.trans l1'.2.1) (rX_go p2)⟩
      obtain ⟨m1, m2, m3⟩ := h.wk (k' := k + 1) hx hB e1
      have hx1 := hx.wk e1
      have cmp : ∀ n : Nat, n ≤ 4294967296 → (lg_cmp (Int32.toInt64 (nI k)) (lN n) < 0 ↔ k < n) := fun n hn => by
        rw [lg_cmp_lt, Int64.lt_iff_toInt_lt, pf_lI (by omega), nI_l (by omega), pf_lI (by omega)]
        omega
      have nv' : ∀ ob, e.H ov = some ob → (∀ z, ob ≠ .inr (.inr (.inr (.inl z)))) → (e.wH (xNew e.H v (.inr (.inr (.inr (.inl (ov, k + 1))))))).H ov = some ob := fun ob z1 z2 => by
        have ne : ov ≠ v := fun w => by
          rw [w, e1] at z1
          exact z2 _ (Option.some.inj z1).symm
        show xNew e.H v _ ov = some ob
        unfold xNew
        rw [if_neg ne]
        exact z1
      refine ⟨rfl, rfl, vp_in_nI (by omega) (by decide), ?_⟩
      intro w1
      have ew : w1 = gV γ ov := rfl
      clear_value w1
      subst ew
      refine ⟨rfl, rfl, vp_in_nI (by omega) (by decide), ?_⟩
      intro w2
      have ew : w2 = nI k := rfl
      clear_value w2
      subst ew
      cases e2 : e.H ov with
      | none => exact absurd (by unfold xLen; rw [e2]) ol'
      | some ob =>
        obtain ⟨tg, og, osz, -⟩ := h.tagc hx oB e2
        match ob, e2, tg, osz with
        | .inl _, e2, _, _ => exact absurd (by unfold xLen; rw [e2]) ol'
        | .inr (.inr (.inr (.inl _))), e2, _, _ => exact absurd (by unfold xLen; rw [e2]) ol'
        | .inr (.inr (.inr (.inr _))), e2, _, _ => exact absurd (by unfold xLen; rw [e2]) ol'
        | .inr (.inl (l, dp)), e2, tg, osz =>
          have tg' : S.rI (m + ce) (γ ov) = Int32.ofInt 4 := tg
          have osz' : γ ov + (3 + l.length) ≤ 1100000 := osz
          obtain ⟨t1, t2, t3, t4, t5, t6⟩ := h.tupc hx oB e2
          have l12 : l.length ≤ 12 := t6.1
          have o2 : nI (γ ov) + 2 = nI (γ ov + 2) := nI_add _ 2
          have el : xLen e.H ov = some l.length := by unfold xLen; rw [e2]
          refine ⟨rfl, rfl, by rw [og]; exact vp_in_nI (by omega) (by decide), fun z => absurd (by rw [og, nI_clamp (show γ ov < 2 ^ 31 by omega), tg']; decide) z, fun _ => ⟨rfl, rfl, by rw [og, o2]; exact vp_in_nI (by omega) (by decide), ?_⟩⟩
          rw [og, o2, nI_clamp (show γ ov + 2 < 2 ^ 31 by omega), t3, nI_l (show l.length < 2 ^ 31 by omega)]
          have tn := nv' _ e2 (fun z w => by cases w)
          obtain ⟨u1, u2, u3, u4, u5, u6⟩ := m1.tupc hx1 oB tn
          obtain ⟨ug, -⟩ := m1.tagc hx1 oB tn
          have ug' : (S.wI (m + ce) (γ v + 2) (nI (k + 1))).rI (m + ce) (γ ov) = Int32.ofInt 4 := ug
          refine f_187_79 hE ⟨fun z => ?_, fun z => ?_⟩
          · have kl := (cmp _ (by omega)).mp z
            have ex : xNext e q a r v = .inr (xNew e.H v (.inr (.inr (.inr (.inl (ov, k + 1))))), e.n, e.G, (e.c, q, l.getD k 0 :: v :: r, e.L, e.b) :: e.t, none) := by
              unfold xNext xItem
              rw [e1]
              dsimp only
              rw [el]
              dsimp only
              rw [if_pos kl, e2]
              try rfl
            rw [ex] at hQ
            refine ⟨by rw [k14]; rfl, by rw [c1]; exact c2, by rw [c1, c3, n2]; exact vp_in_nI (by omega) (by decide), ?_⟩
            rw [c1, n2, nI_clamp (show γ v + 2 < 2 ^ 31 by omega), nI_1]
            generalize S.wI (m + ce) (γ v + 2) (nI (k + 1)) = U at m1 m2 m3 u1 u2 u3 u4 ug' ⊢
            obtain ⟨C1, C2, C3⟩ := m1.ml.cells
            have kU := m1.k
            have o3 : nI (γ ov) + 3 + nI k = nI (γ ov + 3 + k) := by rw [show (3 : Int32) = nI 3 from rfl, nI_add, nI_add]
            refine ⟨by rw [kU]; rfl, by rw [C1, C2]; rfl, by rw [C1, C3]; exact vp_in_nI (by omega) (by decide), fun z => absurd (by rw [C1, nI_clamp (show γ ov < 2 ^ 31 by omega), ug']; decide) z, fun _ => ⟨by rw [kU]; rfl, by rw [C1, C2]; rfl, by rw [C1, C3, o3]; exact vp_in_nI (by omega) (by decide), ?_⟩⟩
            rw [C1, o3, nI_clamp (show γ ov + 3 + k < 2 ^ 31 by omega), u4 k kl]
            have mem : l.getD k 0 ∈ l := by rw [List.getD_eq_getElem?_getD, List.getElem?_eq_getElem kl]; exact List.getElem_mem kl
            refine f_187_176 hE ⟨by decide, kU, by decide, 0, 0, Nat.zero_le _, Nat.zero_le _, ?_⟩
            exact r_174 hsp m1 hx1 hl (t5 _ mem) (fun S' g1 g2 => f_187_179 hE ⟨rfl, hQ S' (m2.trans g1.1) (g1.2.1.trans m3) ⟨γ, B, T, Nat.le_add_right _ _, g2⟩⟩)
          · have kl : ¬ k < l.length := fun w => z ((cmp _ (by omega)).mpr w)
            have ex : xNext e q a r v = xGo e (q + a) r := by
              unfold xNext
              rw [e1]
              dsimp only
              rw [el]
              dsimp only
              rw [if_neg kl]
              try rfl
            exact fin mr sr ex
        | .inr (.inr (.inl p)), e2, tg, osz =>
          have tg' : S.rI (m + ce) (γ ov) = Int32.ofInt 5 := tg
          have osz' : γ ov + 4 ≤ 1100000 := osz
          obtain ⟨t1, t2, t3, t4, t5, t6, t8, -⟩ := h.rngc hx oB e2
          have el : xLen e.H ov = some (rgN p.1 p.2.1 p.2.2) := by unfold xLen; rw [e2]
          have bA := i_bd (S.rI (m + ce) (γ ov + 1))
          have bB := i_bd (S.rI (m + ce) (γ ov + 2))
          rw [t3] at bA
          rw [t4] at bB
          refine ⟨rfl, rfl, by rw [og]; exact vp_in_nI (by omega) (by decide), fun _ => ⟨by decide, rfl, by decide, 0, 0, Nat.zero_le _, Nat.zero_le _, ?_⟩, fun z => absurd z (by rw [og, nI_clamp (show γ ov < 2 ^ 31 by omega), tg']; decide)⟩
          rw [og]
          refine s_180 hsp h.ml t2 t3 t4 t5 t6 ?_
          have tn := nv' _ e2 (fun z w => by cases w)
          obtain ⟨u1, u2, u3, u4, u5, u6, u8, -⟩ := m1.rngc hx1 oB tn
          obtain ⟨ug, -⟩ := m1.tagc hx1 oB tn
          have ug' : (S.wI (m + ce) (γ v + 2) (nI (k + 1))).rI (m + ce) (γ ov) = Int32.ofInt 5 := ug
          refine f_187_79 hE ⟨fun z => ?_, fun z => ?_⟩
          · have kl := (cmp _ t8).mp z
            have ex : xNext e q a r v = .inr (xNew (xNew e.H v (.inr (.inr (.inr (.inl (ov, k + 1)))))) e.n (.inl (p.1 + k * p.2.2)), e.n + 1, e.G, (e.c, q, e.n :: v :: r, e.L, e.b) :: e.t, none) := by
              unfold xNext xItem
              rw [e1]
              dsimp only
              rw [el]
              dsimp only
              rw [if_pos kl, e2]
              try rfl
            rw [ex] at hQ
            refine ⟨by rw [k14]; rfl, by rw [c1]; exact c2, by rw [c1, c3, n2]; exact vp_in_nI (by omega) (by decide), ?_⟩
            rw [c1, n2, nI_clamp (show γ v + 2 < 2 ^ 31 by omega), nI_1]
            generalize S.wI (m + ce) (γ v + 2) (nI (k + 1)) = U at m1 m2 m3 u1 u2 u3 u4 u5 ug' ⊢
            obtain ⟨C1, C2, C3⟩ := m1.ml.cells
            have kU := m1.k
            have o1 : nI (γ ov) + 1 = nI (γ ov + 1) := nI_1 _
            have o3 : nI (γ ov) + 3 = nI (γ ov + 3) := nI_add _ 3
            refine ⟨by rw [kU]; rfl, by rw [C1, C2]; rfl, by rw [C1, C3]; exact vp_in_nI (by omega) (by decide), fun _ => ⟨by rw [kU]; rfl, by rw [C1, C2]; rfl, by rw [C1, C3, o1]; exact vp_in_nI (by omega) (by decide), by rw [kU]; rfl, by rw [C1, C2]; rfl, by rw [C1, C3, o3]; exact vp_in_nI (by omega) (by decide), by decide, kU, by decide, 0, 0, Nat.zero_le _, Nat.zero_le _, ?_⟩, fun z => absurd z (by rw [C1, nI_clamp (show γ ov < 2 ^ 31 by omega), ug']; decide)⟩
            rw [C1, o1, o3, nI_clamp (show γ ov + 1 < 2 ^ 31 by omega), nI_clamp (show γ ov + 3 < 2 ^ 31 by omega)]
            obtain ⟨w1, w2, w3⟩ := rg_it (A := Int32.toInt64 (U.rI (m + ce) (γ ov + 1))) (D := Int32.toInt64 (U.rI (m + ce) (γ ov + 3))) (x := Int32.toInt64 (nI k)) (p := p) kl (by rw [Int32.toInt_toInt64]; exact u3) (by rw [Int32.toInt_toInt64]; exact u5) (by rw [Int32.toInt_toInt64, nI_toInt (by omega)]) bA bB
            refine r_148 hsp m1 hx1 hT w2 w1 (fun S3 g1 g2 g3 g4 g5 => f_187_176 hE ⟨by decide, g1.k, by decide, 0, 0, Nat.zero_le _, Nat.zero_le _, ?_⟩)
            rw [← g5]
            exact r_give (o := .inl (p.1 + k * p.2.2)) (st := v :: r) hsp hx1 hl w3 g4 g1 (fun S' d1 d2 d3 => f_187_179 hE ⟨rfl, hQ S' (m2.trans (g2.trans d1)) (d2.trans (g3.trans m3)) d3⟩)
          · have kl : ¬ k < rgN p.1 p.2.1 p.2.2 := fun w => z ((cmp _ t8).mpr w)
            have ex : xNext e q a r v = xGo e (q + a) r := by
              unfold xNext
              rw [e1]
              dsimp only
              rw [el]
              dsimp only
              rw [if_neg kl]
              try rfl
            exact fin mr sr ex
end RNx
