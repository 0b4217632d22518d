/-! the class's instructions: sizes, items, walkers -/
def pkS : List Nat := [11, 90, 917, 916, 131, 3, 90, 919, 916, 131, 5, 90, 920, 916, 131, 8, 90, 921, 916, 131, 9, 83, 922, 923, 152, 10, 87, 926, 927, 137, 12, 90, 929, 916, 131]
def pkI : List Nat := [11, 91, 1025, 1024, 131, 3, 91, 1027, 1024, 131, 5, 91, 1028, 1024, 131, 8, 91, 1029, 1024, 131, 9, 84, 1030, 1031, 152, 10, 88, 1035, 1036, 137, 12, 91, 1038, 1024, 131]
section CQ
variable {d mr sr : Nat} {S S' T : ox_St} {Q : ox_Q} {x : Nat} {α : Int → Nat} {C : Nat → xCd} {nc K : Nat} {e : xEn} {q : Nat} {st r : List Int} {v u : Int} {a : Nat}
theorem vC.obj (hv : vC S x α v a) (h : 11 ≤ v) : a = α v := by
  obtain ⟨-, -, -, y⟩ := hv
  rcases y with y | y | y | y | y <;> first | exact y.2 | omega
/-- size() -/
theorem c_size {sp : ox_E} (hsp : ox_mono sp) {k : Nat → Nat → ox_Q} (h : cE S x α C nc e q st) (hx : xEs1 C nc K e st) (hv : vC S x α v a) (ok : xOk nc e.H v) (hQ : k (mr - 0) (sr - 0) (some (.inr (.inl (match xLen e.H v with
    | some n => lN n
    | none => -1)))) S) : ox_pv (ox_pick (S.K a) pkS) (fun j_ => 0 ≤ 8 ∧ ∃ mc1 mk2, mc1 ≤ mr ∧ mk2 ≤ sr ∧ ox_M sp (d + 1) j_ [.inr (.inr a)] mc1 mk2 S (k (mr - mc1) (sr - mk2))) := by
  obtain ⟨k1, k2, k3⟩ := h.kv hx hv ok
  have hH := hx.1.1
  have m90 : ox_pick (S.K a) pkS = some 90 → xKd e.H v ≠ 9 → xKd e.H v ≠ 10 → _ := fun p h9 h10 => pvI (f := fun j_ => 0 ≤ 8 ∧ ∃ mc1 mk2, mc1 ≤ mr ∧ mk2 ≤ sr ∧ ox_M sp (d + 1) j_ [.inr (.inr a)] mc1 mk2 S (k (mr - mc1) (sr - mk2))) p ⟨by decide, 0, 0, Nat.zero_le _, Nat.zero_le _, s_90 hsp (by rw [xLen_of hH h9 h10] at hQ; exact hQ)⟩
  rcases isV_at k3 with p | p | p | p | p | p | p
  · exact m90 (by rw [p]; rfl) (by rw [← k1, p]; decide) (by rw [← k1, p]; decide)
  · exact m90 (by rw [p]; rfl) (by rw [← k1, p]; decide) (by rw [← k1, p]; decide)
  · exact m90 (by rw [p]; rfl) (by rw [← k1, p]; decide) (by rw [← k1, p]; decide)
  · obtain ⟨qr, hq⟩ := (xKd_9 hH).mp (k1.symm.trans p)
    obtain ⟨-, -, o1, o2, o3, o4, o5⟩ := h.hp.1 v _ hq
    have ob := (hH.2 v _ hq).2.2
    have h16 := (hH.2 v _ hq).1
    have ha := hv.obj (by omega)
    subst ha
    have hxl : xLen e.H v = some (rgN qr.1 qr.2.1 qr.2.2) := by unfold xLen; rw [hq]
    rw [hxl] at hQ
    refine pvI (j := 83) (by rw [p]; rfl) ⟨by decide, 0, 0, Nat.zero_le _, Nat.zero_le _, s_83 hsp p (by rw [o5]; exact ob.2.2.2) ?_⟩
    rw [o3, o4, o5]
    exact hQ
  · obtain ⟨qt, hq⟩ := (xKd_10 hH).mp (k1.symm.trans p)
    obtain ⟨-, -, t, o1, o2, o3, o4, o5⟩ := h.hp.1 v _ hq
    have h16 := (hH.2 v _ hq).1
    have ha := hv.obj (by omega)
    subst ha
    have hxl : xLen e.H v = some qt.1.length := by unfold xLen; rw [hq]
    rw [hxl] at hQ
    exact pvI (j := 87) (by rw [p]; rfl) ⟨by decide, 0, 0, Nat.zero_le _, Nat.zero_le _, s_87 hsp o1 hQ⟩
  · exact m90 (by rw [p]; rfl) (by rw [← k1, p]; decide) (by rw [← k1, p]; decide)
  · exact m90 (by rw [p]; rfl) (by rw [← k1, p]; decide) (by rw [← k1, p]; decide)
/-- itemAt() of a tuple or range -/
theorem c_item {sp : ox_E} (hsp : ox_mono sp) {k : Nat → Nat → ox_Q} {n : Nat} {i : Int64} (h : cE S x α C nc e q st) (hx : xEs1 C nc K e st) (hv : vC S x α v a) (ok : xOk nc e.H v) (hn : xLen e.H v = some n) (hm : 2 ≤ mr) (hs : 9 ≤ sr) (hQ0 : ∀ m s, m ≤ mr → s ≤ sr → (i.toInt < 0 ∨ (n : Int) ≤ i.toInt) → k (mr - m) (sr - s) (some (.inr (.inr 0))) S) (hQ1 : ∀ (j : Nat) (w : Int) (b m s : Nat), i.toInt = j → j < n → xItem e.H v j = .inl w → vC S x α w b → xOk nc e.H w → k (mr - m) (sr - s) (some (.inr (.inr b))) S)
    (hQ2 : ∀ (j : Nat) (N : Int) (S' : ox_St) (wd : Nat → Nat) (c : Nat) (p : Int32) (m s : Nat), i.toInt = j → j < n → xItem e.H v j = .inr N → S'.n = S.n + 2 → oAg (fun a => a < S.n) S S' → oNm S' (S.n + 1) S.n wd c p ∧ S'.I 6 (S.n + 1) = 3 → nv wd c p = N → k (mr - m) (sr - s) (some (.inr (.inr (S.n + 1)))) S') : ox_pv (ox_pick (S.K a) pkI) (fun j_ => 0 ≤ 8 ∧ ∃ mc1 mk2, mc1 ≤ mr ∧ mk2 ≤ sr ∧ ox_M sp (d + 4) j_ [.inr (.inr a), .inr (.inl i)] mc1 mk2 S (k (mr - mc1) (sr - mk2))) := by
  obtain ⟨k1, k2, k3⟩ := h.kv hx hv ok
  have hH := hx.1.1
  have hb := h.n
  by_cases p9 : xKd e.H v = 9
  · obtain ⟨qr, hq⟩ := (xKd_9 hH).mp p9
    obtain ⟨-, -, o1, o2, o3, o4, o5⟩ := h.hp.1 v _ hq
    have ob := (hH.2 v _ hq).2.2
    have h16 := (hH.2 v _ hq).1
    have ha := hv.obj (by omega)
    subst ha
    have hxl : xLen e.H v = some (rgN qr.1 qr.2.1 qr.2.2) := by unfold xLen; rw [hq]
    rw [hn] at hxl
    cases hxl
    refine pvI (j := 84) (by rw [k1, p9]; rfl) ⟨by decide, 2, 9, hm, hs, s_84 hsp o1 (by rw [o5]; exact ob.2.2.2) (by omega) (by decide) (by decide) (fun z => ?_) (fun j hj hjn S' w c rr e1 e2 e3 e4 => ?_)⟩
    · rw [o3, o4, o5] at z
      exact hQ0 2 9 hm hs z
    · rw [o3, o4, o5] at hjn
      rw [o3, o5] at e4
      have b := rgN_le (u := qr.1) (v := qr.2.1) (w := qr.2.2) (by rw [← o3]; exact i_bd _) (by rw [← o4]; exact i_bd _) ob.2.2.2
      exact hQ2 j (qr.1 + j * qr.2.2) S' w c rr 2 9 (by rw [hj, pf_lI (by omega)]) hjn (by unfold xItem; rw [hq]) e1 e2 e3 e4
  · by_cases p10 : xKd e.H v = 10
    · obtain ⟨qt, hq⟩ := (xKd_10 hH).mp p10
      obtain ⟨-, -, t, o1, o2, o3, o4, o5⟩ := h.hp.1 v _ hq
      have h16 := (hH.2 v _ hq).1
      have ha := hv.obj (by omega)
      subst ha
      have hxl : xLen e.H v = some qt.1.length := by unfold xLen; rw [hq]
      rw [hn] at hxl
      cases hxl
      have b : qt.1.length ≤ 12 := o1.2.2.2.2
      refine pvI (j := 88) (by rw [k1, p10]; rfl) ⟨by decide, 0, 0, Nat.zero_le _, Nat.zero_le _, s_88 hsp o1 (fun z => hQ0 0 0 (Nat.zero_le _) (Nat.zero_le _) z) (fun j hj hjn => ?_)⟩
      have hm2 : qt.1.getD j 0 ∈ qt.1 := by
        rw [List.getD_eq_getElem?_getD, List.getElem?_eq_getElem hjn]
        exact List.getElem_mem _
      exact hQ1 j (qt.1.getD j 0) _ 0 0 (by rw [hj, pf_lI (by omega)]) hjn (by unfold xItem; rw [hq]) (o5 j hjn) ((hH.2 v _ hq).2.2.2.2.2 _ hm2)
    · rw [xLen_of hH p9 p10] at hn; cases hn
end CQ
