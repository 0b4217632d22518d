/-! the class's instructions: places, blocks, whether a value is false -/
theorem xKd_9 {nc K : Nat} {H : xHp} {n v : Int} (hH : xHOk nc K H n) : xKd H v = 9 ↔ ∃ q, H v = some (.inr (.inr (.inl q))) := by
  unfold xKd
  constructor
  · intro h
    split at h
    · cases h
    · split at h
      · cases h
      · split at h <;> first | exact ⟨_, by assumption⟩ | cases h
  · rintro ⟨N, h⟩
    have := (hH.2 v _ h).1
    rw [if_neg (by omega), if_neg (by omega), h]
theorem xKd_12 {nc K : Nat} {H : xHp} {n v : Int} (hH : xHOk nc K H n) : xKd H v = 12 ↔ ∃ q, H v = some (.inr (.inr (.inr (.inl q)))) := by
  unfold xKd
  constructor
  · intro h
    split at h
    · cases h
    · split at h
      · cases h
      · split at h <;> first | exact ⟨_, by assumption⟩ | cases h
  · rintro ⟨N, h⟩
    have := (hH.2 v _ h).1
    rw [if_neg (by omega), if_neg (by omega), h]
theorem xKd_5 {nc K : Nat} {H : xHp} {n v : Int} (hH : xHOk nc K H n) : xKd H v = 5 ↔ ∃ q, H v = some (.inr (.inr (.inr (.inr q)))) := by
  unfold xKd
  constructor
  · intro h
    split at h
    · cases h
    · split at h
      · cases h
      · split at h <;> first | exact ⟨_, by assumption⟩ | cases h
  · rintro ⟨N, h⟩
    have := (hH.2 v _ h).1
    rw [if_neg (by omega), if_neg (by omega), h]
theorem xKd_3 {nc K : Nat} {H : xHp} {n v : Int} (hH : xHOk nc K H n) : xKd H v = 3 ↔ v < 0 := by
  unfold xKd
  constructor
  · intro h
    split at h
    · assumption
    · split at h
      · cases h
      · split at h <;> cases h
  · intro h
    rw [if_pos h]
theorem xLen_of {nc K : Nat} {H : xHp} {n v : Int} (hH : xHOk nc K H n) (h9 : xKd H v ≠ 9) (h10 : xKd H v ≠ 10) : xLen H v = none := by
  unfold xLen
  cases m : H v with
  | none => rfl
  | some o =>
    match o, m with
    | .inl _, _ => rfl
    | .inr (.inl p), m => exact absurd ((xKd_10 hH).mpr ⟨p, m⟩) h10
    | .inr (.inr (.inl p)), m => exact absurd ((xKd_9 hH).mpr ⟨p, m⟩) h9
    | .inr (.inr (.inr _)), _ => rfl
theorem if_10 {κ k : Nat} (z : (if [k].contains κ = true then (1 : Int32) else 0) = 0) : κ ≠ k := fun y => by
  rw [y, if_pos (by simp)] at z
  exact absurd z (by decide)
theorem if_11 {κ k : Nat} (z : ¬ (if [k].contains κ = true then (1 : Int32) else 0) = 0) : κ = k := by
  by_cases y : κ = k
  · exact y
  · rw [if_neg (by simpa using y)] at z; exact absurd rfl z
section C52
variable {sp : ox_E} {d mr sr : Nat} {S S' : ox_St} {Q : ox_Q} {x : Nat} {α : Int → Nat} {C : Nat → xCd} {nc K : Nat} {e : xEn} {q : Nat} {st r : List Int} {v u : Int} {a : Nat}
theorem nv_0 {w : Nat → Nat} {c : Nat} {r : Int32} (hd : dc w c) (hr : r = 0 ∨ r = 1) : nv w c r = 0 ↔ c = 0 := by
  constructor
  · intro h
    by_cases z : c = 0
    · exact z
    · have := dc_pos hd z
      unfold nv at h
      rcases hr with y | y
      · rw [if_pos y] at h; omega
      · rw [if_neg (by rw [y]; decide)] at h; omega
  · rintro rfl
    unfold nv
    have : dv w 0 = 0 := rfl
    rw [this]
    rcases hr with y | y
    · rw [if_pos y]; rfl
    · rw [if_neg (by rw [y]; decide)]; rfl
theorem lN_0 {n : Nat} (hn : n < 2 ^ 63) : lg_cmp (lN n) 0 = 0 ↔ n = 0 := by
  rw [lg_cmp_eq]
  constructor
  · intro h
    have := congrArg Int64.toInt h
    rw [pf_lI hn] at this
    have z : (0 : Int64).toInt = 0 := rfl
    omega
  · rintro rfl; rfl
/-- isFalse -/
theorem c_55 (hsp : ox_mono sp) (h : cE S x α C nc e q st) (hx : xEs1 C nc K e st) (hv : vC S x α v a) (ok : xOk nc e.H v) (hQ : Q (some (.inl (if xFalse e.H v = true then 1 else 0))) S) : ox_M sp (d + 2) 55 [.inr (.inr a)] mr sr S Q := by
  have hE : ox_mono (ox_M sp (d + 1)) := ox_M_mono hsp _
  obtain ⟨k1, k2, k3⟩ := h.kv hx hv ok
  have hH := hx.1.1
  have h6 := (isV_has k3).1
  refine f_55 hsp ⟨Or.inr k3, fun z => ?_, fun z => ?_⟩
  · have n8 : S.K a ≠ 8 := fun y => by rw [y] at z; exact absurd z (by decide)
    have nn : ∀ N, e.H v ≠ some (.inl N) := fun N y => n8 (k1.trans ((xKd_8 hH).mpr ⟨N, y⟩))
    have fin : ∀ y : Int64, lg_cmp y 0 ≠ 0 → xLen e.H v ≠ some 0 → k_55_30 (ox_M sp (d + 1)) a mr sr Q (some (.inr (.inl y))) S := fun y hy hl => by
      refine f_55_30 hE ⟨fun w => absurd w hy, fun _ => ⟨h6, fun w => ⟨Or.inr rfl, ?_⟩, fun w => ⟨h6, fun w2 => ⟨Or.inl rfl, ?_⟩, fun w2 => ⟨Or.inr rfl, ?_⟩⟩⟩⟩
      · have : v = 0 := by
          rw [k2] at w
          by_cases p : v = 0
          · exact p
          · exfalso
            unfold xTg at w
            have ok2 := ok
            repeat' split at w
            all_goals first | (exact absurd w (by decide)) | skip
            · have : v = 1 ∨ v = 2 := by omega
              rcases this with rfl | rfl <;> exact absurd w (by decide)
            · rename_i y1 y2 y3 y4 y5
              rcases ok2 with m | m
              · omega
              · exact m y5
        rw [if_pos (by rw [this]; rfl)] at hQ
        exact hQ
      · have : xFalse e.H v = false := by
          unfold xFalse
          have n0 : v ≠ 0 := fun p => w (by rw [k2, p]; rfl)
          have n1 : v ≠ 1 := fun p => w2 (by rw [k2, p]; rfl)
          have xn : xNum e.H v ≠ some 0 := by
            unfold xNum
            rw [if_neg n1]
            by_cases p : v = 2
            · rw [if_pos p]; exact fun m => by cases m
            · rw [if_neg p]
              cases m : e.H v with
              | none => exact fun m => by cases m
              | some o =>
                match o, m with
                | .inl N, m => exact absurd m (nn N)
                | .inr _, _ => exact fun m => by cases m
          simp [n0, xn, hl]
        rw [this] at hQ
        exact hQ
      · have : v = 1 := by
          rw [k2] at w2
          by_cases p : v = 1
          · exact p
          · exfalso
            unfold xTg at w2
            have ok2 := ok
            repeat' split at w2
            all_goals first | (exact absurd w2 (by decide)) | skip
            · have : v = 0 ∨ v = 2 := by omega
              rcases this with rfl | rfl <;> exact absurd w2 (by decide)
        rw [if_pos (by rw [this]; rfl)] at hQ
        exact hQ
    have m90 : ox_pick (S.K a) [11, 90, 917, 916, 131, 3, 90, 919, 916, 131, 5, 90, 920, 916, 131, 8, 90, 921, 916, 131, 9, 83, 922, 923, 152, 10, 87, 926, 927, 137, 12, 90, 929, 916, 131] = some 90 → xLen e.H v ≠ some 0 → ox_pv (ox_pick (S.K a) [11, 90, 917, 916, 131, 3, 90, 919, 916, 131, 5, 90, 920, 916, 131, 8, 90, 921, 916, 131, 9, 83, 922, 923, 152, 10, 87, 926, 927, 137, 12, 90, 929, 916, 131]) (fun j_ => 0 ≤ 8 ∧ ∃ mc1 mk2, mc1 ≤ mr ∧ mk2 ≤ sr ∧ ox_M sp (d + 1) j_ [.inr (.inr a)] mc1 mk2 S (k_55_30 (ox_M sp (d + 1)) a (mr - mc1) (sr - mk2) Q)) := fun p hl => pvI p ⟨by decide, 0, 0, Nat.zero_le _, Nat.zero_le _, s_90 hsp (fin _ (by decide) hl)⟩
    refine ⟨by decide, ?_⟩
    have kk : xKd e.H v = 11 ∨ xKd e.H v = 3 ∨ xKd e.H v = 5 ∨ xKd e.H v = 12 → xLen e.H v ≠ some 0 := fun p => by
      rw [xLen_of hH (by omega) (by omega)]
      exact fun m => by cases m
    rcases isV_at k3 with p | p | p | p | p | p | p
    · exact m90 (by rw [p]; rfl) (kk (by rw [← k1, p]; decide))
    · exact m90 (by rw [p]; rfl) (kk (by rw [← k1, p]; decide))
    · exact absurd p n8
    · obtain ⟨qr, hq⟩ : ∃ qr, e.H v = some (.inr (.inr (.inl qr))) := by
        rw [p] at k1
        have k1' := k1.symm
        unfold xKd at k1'
        split at k1'
        · cases k1'
        · split at k1'
          · cases k1'
          · split at k1' <;> first | exact ⟨_, by assumption⟩ | cases k1'
      obtain ⟨-, -, o1, o2, o3, o4, o5⟩ := h.hp.1 v _ hq
      have ob := (hH.2 v _ hq).2.2
      have ha : a = α v := by
        obtain ⟨-, -, -, y⟩ := hv
        have := (hH.2 v _ hq).1
        rcases y with y | y | y | y | y <;> first | exact y.2 | omega
      subst ha
      have hxl : xLen e.H v = some (rgN qr.1 qr.2.1 qr.2.2) := by unfold xLen; rw [hq]
      refine pvI (j := 83) (by rw [p]; rfl) ⟨by decide, 0, 0, Nat.zero_le _, Nat.zero_le _, s_83 hsp p (by rw [o5]; exact ob.2.2.2) ?_⟩
      rw [o3, o4, o5]
      have b := rgN_le (u := qr.1) (v := qr.2.1) (w := qr.2.2) (by rw [← o3]; exact i_bd _) (by rw [← o4]; exact i_bd _) ob.2.2.2
      by_cases y : rgN qr.1 qr.2.1 qr.2.2 = 0
      · refine f_55_30 hE ⟨fun _ => ⟨Or.inr rfl, ?_⟩, fun w => absurd ((lN_0 (by omega)).mpr y) w⟩
        rw [if_pos (by unfold xFalse; rw [hxl, y]; simp)] at hQ
        exact hQ
      · exact fin _ (fun w => y ((lN_0 (by omega)).mp w)) (by rw [hxl]; exact fun w => y (Option.some.inj w))
    · obtain ⟨qt, hq⟩ := (xKd_10 hH).mp (k1.symm.trans p)
      obtain ⟨-, -, t, o1, o2, o3, o4, o5⟩ := h.hp.1 v _ hq
      have ha : a = α v := by
        obtain ⟨-, -, -, y⟩ := hv
        have := (hH.2 v _ hq).1
        rcases y with y | y | y | y | y <;> first | exact y.2 | omega
      subst ha
      have hxl : xLen e.H v = some qt.1.length := by unfold xLen; rw [hq]
      have b : qt.1.length ≤ 12 := o1.2.2.2.2
      refine pvI (j := 87) (by rw [p]; rfl) ⟨by decide, 0, 0, Nat.zero_le _, Nat.zero_le _, s_87 hsp o1 ?_⟩
      by_cases y : qt.1.length = 0
      · refine f_55_30 hE ⟨fun _ => ⟨Or.inr rfl, ?_⟩, fun w => absurd ((lN_0 (by omega)).mpr y) w⟩
        rw [if_pos (by unfold xFalse; rw [hxl, y]; simp)] at hQ
        exact hQ
      · exact fin _ (fun w => y ((lN_0 (by omega)).mp w)) (by rw [hxl]; exact fun w => y (Option.some.inj w))
    · exact m90 (by rw [p]; rfl) (kk (by rw [← k1, p]; decide))
    · exact m90 (by rw [p]; rfl) (kk (by rw [← k1, p]; decide))
  · have h8 : S.K a = 8 := by
      by_cases y : S.K a = 8
      · exact y
      · rw [if_neg (by simp [y])] at z; exact absurd rfl z
    obtain ⟨N, hN⟩ := (xKd_8 hH).mp (k1.symm.trans h8)
    obtain ⟨-, -, t, w, c, rr, g1, g2, g3, g4⟩ := h.hp.1 v _ hN
    have h16 := (hH.2 v _ hN).1
    have ha : a = α v := by
      obtain ⟨-, -, -, y⟩ := hv
      rcases y with y | y | y | y | y <;> first | exact y.2 | omega
    subst ha
    obtain ⟨n1, n2, ⟨n3, n4, n5, n6⟩, n7, n8, n9, n10⟩ := g1
    have hx0 : xNum e.H v = some N := by unfold xNum; rw [if_neg (by omega), if_neg (by omega), hN]
    have hxl : xLen e.H v = none := by unfold xLen; rw [hN]
    have nz := nv_0 (r := rr) n7 n9
    rw [g2] at nz
    refine ⟨Or.inr (by rw [h8]; rfl), by rw [h8]; rfl, by rw [n2, n3]; rfl, fun y => ⟨Or.inl rfl, ?_⟩, fun y => ⟨Or.inr rfl, ?_⟩⟩
    · rw [n2, n4] at y
      have : xFalse e.H v = false := by
        unfold xFalse
        rw [hx0, hxl]
        have c0 : c ≠ 0 := fun m => y (by rw [m]; rfl)
        have N0 : N ≠ 0 := fun m => c0 (nz.mp m)
        have v0 : v ≠ 0 := by omega
        simp [N0, v0]
      rw [this] at hQ
      exact hQ
    · rw [n2, n4] at y
      have c0 : c = 0 := by
        have := congrArg Int32.toInt y
        by_cases m : c = 0
        · exact m
        · exfalso
          have e1 : (Int32.ofNat c).toInt = c := nI_toInt (by omega)
          have e2 : (0 : Int32).toInt = 0 := rfl
          rw [e1, e2] at this
          omega
      have : xFalse e.H v = true := by
        unfold xFalse
        rw [hx0, nz.mpr c0]
        simp
      rw [this] at hQ
      exact hQ
end C52
